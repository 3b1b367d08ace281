def ck_X12_wordOf_0 : AK := (1, [.inr (.inr 1)], [], false, [([], .inl (.ofNat 0, .ofNat 31), []), ([], .inl (.negSucc 0, .negSucc 0), [])], [])
def cg_X12_wordOf_0 : List (Nat × AK) := []
def ca_X12_wordOf_0 : List (Nat × AA) := []
set_option maxRecDepth 100000 in
theorem cc_X12_wordOf_0 : aChk QPl CF ck_X12_wordOf_0 cg_X12_wordOf_0 xxX12 mX12_wordOf tX12_wordOf ca_X12_wordOf_0 [] 1 = true := by decide +kernel
theorem cx_X12_wordOf_0 : ctsO QQ CF xxX12 cg_X12_wordOf_0 := ctsO_nil
theorem ct_X12_wordOf_0 : ctrO QQ CF ck_X12_wordOf_0 mX12_wordOf := chk_ok (Q := QQ) (QP := QPl) (C := CF) (c := ck_X12_wordOf_0) (G := cg_X12_wordOf_0) (X := xxX12) (M := mX12_wordOf) (t := tX12_wordOf) (anns := ca_X12_wordOf_0) 1 xx12 pl12 rfl kX12_wordOf qq_ok cx_X12_wordOf_0 cc_X12_wordOf_0
def ck_X12_mayName_0 : AK := (1, [.inl fr, .inl fr], [], false, [([fr, fr], .inl (.ofNat 1, .ofNat 1), []), ([fr, fr], .inl (.ofNat 0, .ofNat 0), [])], [])
def cg_X12_mayName_0 : List (Nat × AK) := []
def ca_X12_mayName_0 : List (Nat × AA) := []
set_option maxRecDepth 100000 in
theorem cc_X12_mayName_0 : aChk QPl CF ck_X12_mayName_0 cg_X12_mayName_0 xxX12 mX12_mayName tX12_mayName ca_X12_mayName_0 [] 1 = true := by decide +kernel
theorem cx_X12_mayName_0 : ctsO QQ CF xxX12 cg_X12_mayName_0 := ctsO_nil
theorem ct_X12_mayName_0 : ctrO QQ CF ck_X12_mayName_0 mX12_mayName := chk_ok (Q := QQ) (QP := QPl) (C := CF) (c := ck_X12_mayName_0) (G := cg_X12_mayName_0) (X := xxX12) (M := mX12_mayName) (t := tX12_mayName) (anns := ca_X12_mayName_0) 1 xx12 pl12 rfl kX12_mayName qq_ok cx_X12_mayName_0 cc_X12_mayName_0
def ck_X12_namesOfThing_0 : AK := (1, [.inr (.inl [67]), .inl (.ofNat 0, .ofNat 7)], [91], false, [([(.ofNat 0, .ofNat 7)], .inr (.inr 9), [])], [])
def cg_X12_namesOfThing_0 : List (Nat × AK) := []
def ca_X12_namesOfThing_0 : List (Nat × AA) := []
set_option maxRecDepth 100000 in
theorem cc_X12_namesOfThing_0 : aChk QPl CF ck_X12_namesOfThing_0 cg_X12_namesOfThing_0 xxX12 mX12_namesOfThing tX12_namesOfThing ca_X12_namesOfThing_0 [] 1 = true := by decide +kernel
theorem cx_X12_namesOfThing_0 : ctsO QQ CF xxX12 cg_X12_namesOfThing_0 := ctsO_nil
theorem ct_X12_namesOfThing_0 : ctrO QQ CF ck_X12_namesOfThing_0 mX12_namesOfThing := chk_ok (Q := QQ) (QP := QPl) (C := CF) (c := ck_X12_namesOfThing_0) (G := cg_X12_namesOfThing_0) (X := xxX12) (M := mX12_namesOfThing) (t := tX12_namesOfThing) (anns := ca_X12_namesOfThing_0) 1 xx12 pl12 rfl kX12_namesOfThing qq_ok cx_X12_namesOfThing_0 cc_X12_namesOfThing_0
def ck_X12_balesIn_0 : AK := (1, [.inr (.inl [67]), .inl fr], [], false, [([fr], .inl fr, [])], [])
def cg_X12_balesIn_0 : List (Nat × AK) := []
def ca_X12_balesIn_0 : List (Nat × AA) := [(4, [(.ofNat 0, .ofNat 0), fr, fr, (.ofNat 0, .ofNat 12)], [.inr (.inl [67]), .inl (1, .ofNat 0), .inl (2, .ofNat 0), .inl (3, .ofNat 0)], [], [], [(0, 2, 0), (0, 3, 0)], (.ofNat 12, [.ofNat 0, .ofNat 0, .ofNat 0, .negSucc 0]))]
set_option maxRecDepth 100000 in
theorem cc_X12_balesIn_0 : aChk QPl CF ck_X12_balesIn_0 cg_X12_balesIn_0 xxX12 mX12_balesIn tX12_balesIn ca_X12_balesIn_0 [] 13 = true := by decide +kernel
theorem cx_X12_balesIn_0 : ctsO QQ CF xxX12 cg_X12_balesIn_0 := ctsO_nil
theorem ct_X12_balesIn_0 : ctrO QQ CF ck_X12_balesIn_0 mX12_balesIn := chk_ok (Q := QQ) (QP := QPl) (C := CF) (c := ck_X12_balesIn_0) (G := cg_X12_balesIn_0) (X := xxX12) (M := mX12_balesIn) (t := tX12_balesIn) (anns := ca_X12_balesIn_0) 13 xx12 pl12 rfl kX12_balesIn qq_ok cx_X12_balesIn_0 cc_X12_balesIn_0
def ck_X12_namesOfBale_0 : AK := (2, [.inr (.inl [67]), .inl (.ofNat 0, .ofNat 11)], [91], false, [([(.ofNat 0, .ofNat 11)], .inr (.inr 9), [])], [])
def cg_X12_namesOfBale_0 : List (Nat × AK) := [(359, ck_X12_balesIn_0)]
def ca_X12_namesOfBale_0 : List (Nat × AA) := []
set_option maxRecDepth 100000 in
theorem cc_X12_namesOfBale_0 : aChk QPl CF ck_X12_namesOfBale_0 cg_X12_namesOfBale_0 xxX12 mX12_namesOfBale tX12_namesOfBale ca_X12_namesOfBale_0 [] 1 = true := by decide +kernel
theorem cx_X12_namesOfBale_0 : ctsO QQ CF xxX12 cg_X12_namesOfBale_0 := ctsO_cons rfl ct_X12_balesIn_0 (ctsO_nil)
theorem ct_X12_namesOfBale_0 : ctrO QQ CF ck_X12_namesOfBale_0 mX12_namesOfBale := chk_ok (Q := QQ) (QP := QPl) (C := CF) (c := ck_X12_namesOfBale_0) (G := cg_X12_namesOfBale_0) (X := xxX12) (M := mX12_namesOfBale) (t := tX12_namesOfBale) (anns := ca_X12_namesOfBale_0) 1 xx12 pl12 rfl kX12_namesOfBale qq_ok cx_X12_namesOfBale_0 cc_X12_namesOfBale_0
def ck_X12_draw_0 : AK := (1, [.inr (.inl [67]), .inl (.ofNat 10, .ofNat 10)], [93], false, [([(.ofNat 10, .ofNat 10)], .inl (.negSucc 8, .ofNat 9), [(93, 68, (.negSucc 30311, .ofNat 30312)), (93, 64, (.ofNat 0, .ofNat 0))])], [(93, 68, fr), (93, 64, (.ofNat 0, .ofNat 0))])
def cg_X12_draw_0 : List (Nat × AK) := []
def ca_X12_draw_0 : List (Nat × AA) := []
set_option maxRecDepth 100000 in
theorem cc_X12_draw_0 : aChk QPl CF ck_X12_draw_0 cg_X12_draw_0 xxX12 mX12_draw tX12_draw ca_X12_draw_0 [] 1 = true := by decide +kernel
theorem cx_X12_draw_0 : ctsO QQ CF xxX12 cg_X12_draw_0 := ctsO_nil
theorem ct_X12_draw_0 : ctrO QQ CF ck_X12_draw_0 mX12_draw := chk_ok (Q := QQ) (QP := QPl) (C := CF) (c := ck_X12_draw_0) (G := cg_X12_draw_0) (X := xxX12) (M := mX12_draw) (t := tX12_draw) (anns := ca_X12_draw_0) 1 xx12 pl12 rfl kX12_draw qq_ok cx_X12_draw_0 cc_X12_draw_0
def ck_X12_growsOf_0 : AK := (9, [.inr (.inl [67]), .inl (.ofNat 0, .ofNat 7)], [91], false, [([(.ofNat 0, .ofNat 7)], .inl (.ofNat 0, .ofNat 100), [])], [])
set_option maxRecDepth 100000 in
set_option maxHeartbeats 1000000 in
theorem ct_X12_growsOf_0 : ctrO QQ CF ck_X12_growsOf_0 mX12_growsOf := by
  intro l d sh I J as Rp ha hce hs hi hq hR
  obtain ⟨x, rfl, hx⟩ := ag1i ha
  obtain ⟨ru, ta, rs, hru, hta, rfl⟩ := shX hs
  obtain ⟨t, rfl, t1, t2, _⟩ := nI_inI (a := 0) (b := 7) hx (by decide)
  have fin : ∀ (r : Int32) (I' : XI) (J' : XJ), ivO CF [] I' → frO [91] I I' → inI (0, 100) r.toInt → Rp (some (.int r)) (shH ru ta rs) I' J' := fun r I' J' b1 b2 b3 => hR _ _ I' J' hs (fun _ => rfl) b1 (qq_ok I I' (fun p hp => b2 p (qp91 p hp)) hq) b2 ⟨_, List.mem_cons_self, one_post ha ⟨r, rfl, b3⟩⟩
  show xm l (d + 8 + 1) 0 0 mX12_growsOf [.ref 67, .int (nI t)] (shH ru ta rs) I J Rp
  refine xm_ofK 3 (X := xxX12) (t := tX12_growsOf) (stop := []) (ini := false) xx12 pl12 rfl kX12_growsOf (fun h => by cases h) (Nat.le_of_ble_eq_true rfl) (fun K hK => ?_)
  refine hm_orders l (d + 7) 1 (by decide) ru ta rs I J _ hi hq (fun r hr => ?_)
  refine ct_X12_namesOfThing_0 l (d + 7) _ I J [.ref 67, .int (nI t)] _ ⟨List.mem_singleton.mpr rfl, hx, trivial⟩ (fun e he => by cases he) hs hi hq (fun v sh' I1 J1 a1 a2 a3 a4 a5 ⟨P, hP, hp⟩ => ?_)
  have e2 := a2 rfl
  subst e2
  have e3 := List.mem_singleton.mp hP
  subst e3
  have e4 : v = none := hp.2.1
  subst e4
  have hr1 : foO I1 r := foO_keep (a5 77 (by decide)) (a5 78 (by decide)) hr
  refine And.intro (fun hn => ?_) (fun _ => fin 10 I1 J1 a3 a5 ⟨by decide, by decide⟩)
  exact hm_says_fo l (d + 5) r hn ru ta rs I1 J1 _ hr1 (fun v J' => hm_held l (d + 7) v 0 100 (by decide) _ _ _ _ (fun q q1 q2 => fin q I1 J' a3 a5 ⟨q1, q2⟩))
def ck_X12_least_0 : AK := (1, [.inl (.ofNat 100, .ofNat 100), .inl fr], [], false, [([(.ofNat 100, .ofNat 100), (.ofNat 101, .ofNat 2147483647)], .inl (.ofNat 100, .ofNat 100), []), ([(.ofNat 100, .ofNat 100), (.negSucc 2147483647, .ofNat 100)], .inl (.negSucc 2147483647, .ofNat 100), [])], [])
def cg_X12_least_0 : List (Nat × AK) := []
def ca_X12_least_0 : List (Nat × AA) := []
set_option maxRecDepth 100000 in
theorem cc_X12_least_0 : aChk QPl CF ck_X12_least_0 cg_X12_least_0 xxX12 mX12_least tX12_least ca_X12_least_0 [] 1 = true := by decide +kernel
theorem cx_X12_least_0 : ctsO QQ CF xxX12 cg_X12_least_0 := ctsO_nil
theorem ct_X12_least_0 : ctrO QQ CF ck_X12_least_0 mX12_least := chk_ok (Q := QQ) (QP := QPl) (C := CF) (c := ck_X12_least_0) (G := cg_X12_least_0) (X := xxX12) (M := mX12_least) (t := tX12_least) (anns := ca_X12_least_0) 1 xx12 pl12 rfl kX12_least qq_ok cx_X12_least_0 cc_X12_least_0
def ck_X12_spoilsOf_0 : AK := (9, [.inr (.inl [67]), .inl (.ofNat 0, .ofNat 11)], [91], false, [([(.ofNat 0, .ofNat 11)], .inl (.ofNat 0, .ofNat 999), [])], [])
set_option maxRecDepth 100000 in
set_option maxHeartbeats 1000000 in
theorem ct_X12_spoilsOf_0 : ctrO QQ CF ck_X12_spoilsOf_0 mX12_spoilsOf := by
  intro l d sh I J as Rp ha hce hs hi hq hR
  obtain ⟨x, rfl, hx⟩ := ag1i ha
  obtain ⟨ru, ta, rs, hru, hta, rfl⟩ := shX hs
  obtain ⟨t, rfl, t1, t2, _⟩ := nI_inI (a := 0) (b := 11) hx (by decide)
  have fin : ∀ (r : Int32) (I' : XI) (J' : XJ), ivO CF [] I' → frO [91] I I' → inI (0, 999) r.toInt → Rp (some (.int r)) (shH ru ta rs) I' J' := fun r I' J' b1 b2 b3 => hR _ _ I' J' hs (fun _ => rfl) b1 (qq_ok I I' (fun p hp => b2 p (qp91 p hp)) hq) b2 ⟨_, List.mem_cons_self, one_post ha ⟨r, rfl, b3⟩⟩
  show xm l (d + 8 + 1) 0 0 mX12_spoilsOf [.ref 67, .int (nI t)] (shH ru ta rs) I J Rp
  refine xm_ofK 3 (X := xxX12) (t := tX12_spoilsOf) (stop := []) (ini := false) xx12 pl12 rfl kX12_spoilsOf (fun h => by cases h) (Nat.le_of_ble_eq_true rfl) (fun K hK => ?_)
  refine hm_orders l (d + 7) 2 (by decide) ru ta rs I J _ hi hq (fun r hr => ?_)
  refine ct_X12_namesOfBale_0 l (d + 6) _ I J [.ref 67, .int (nI t)] _ ⟨List.mem_singleton.mpr rfl, hx, trivial⟩ (fun e he => by cases he) hs hi hq (fun v sh' I1 J1 a1 a2 a3 a4 a5 ⟨P, hP, hp⟩ => ?_)
  have e2 := a2 rfl
  subst e2
  have e3 := List.mem_singleton.mp hP
  subst e3
  have e4 : v = none := hp.2.1
  subst e4
  have hr1 : foO I1 r := foO_keep (a5 77 (by decide)) (a5 78 (by decide)) hr
  refine And.intro (fun hn => ?_) (fun _ => fin 1 I1 J1 a3 a5 ⟨by decide, by decide⟩)
  exact hm_says_fo l (d + 5) r hn ru ta rs I1 J1 _ hr1 (fun v J' => hm_held l (d + 7) v 0 999 (by decide) _ _ _ _ (fun q q1 q2 => fin q I1 J' a3 a5 ⟨q1, q2⟩))
def ck_X12_least_1 : AK := (1, [.inl (.ofNat 99, .ofNat 99), .inl fr], [], false, [([(.ofNat 99, .ofNat 99), (.ofNat 100, .ofNat 2147483647)], .inl (.ofNat 99, .ofNat 99), []), ([(.ofNat 99, .ofNat 99), (.negSucc 2147483647, .ofNat 99)], .inl (.negSucc 2147483647, .ofNat 99), [])], [])
def cg_X12_least_1 : List (Nat × AK) := []
def ca_X12_least_1 : List (Nat × AA) := []
set_option maxRecDepth 100000 in
theorem cc_X12_least_1 : aChk QPl CF ck_X12_least_1 cg_X12_least_1 xxX12 mX12_least tX12_least ca_X12_least_1 [] 1 = true := by decide +kernel
theorem cx_X12_least_1 : ctsO QQ CF xxX12 cg_X12_least_1 := ctsO_nil
theorem ct_X12_least_1 : ctrO QQ CF ck_X12_least_1 mX12_least := chk_ok (Q := QQ) (QP := QPl) (C := CF) (c := ck_X12_least_1) (G := cg_X12_least_1) (X := xxX12) (M := mX12_least) (t := tX12_least) (anns := ca_X12_least_1) 1 xx12 pl12 rfl kX12_least qq_ok cx_X12_least_1 cc_X12_least_1
def ck_X12_shortens_0 : AK := (2, [.inr (.inl [67]), .inl (.ofNat 0, .ofNat 11), .inl (.ofNat 0, .ofNat 999)], [93], false, [([(.ofNat 0, .ofNat 11), (.ofNat 0, .ofNat 999)], .inr (.inr 9), [(93, 68, fr), (93, 64, (.ofNat 0, .ofNat 0))])], [(93, 68, fr), (93, 64, (.ofNat 0, .ofNat 0))])
set_option maxRecDepth 100000 in
set_option maxHeartbeats 1000000 in
theorem ct_X12_shortens_0 : ctrO QQ CF ck_X12_shortens_0 mX12_shortens := by
  intro l d sh I J as Rp ha hce hs hi hq hR
  obtain ⟨x, y, rfl, hx, hy⟩ := ag1ii ha
  obtain ⟨ru, ta, rs, hru, hta, rfl⟩ := shX hs
  obtain ⟨b, rfl, _, hb, _⟩ := nI_inI (a := 0) (b := 11) hx (by decide)
  have hL := lens_of hi
  have hy1 : 0 ≤ y.toInt := hy.1
  have hy2 : y.toInt ≤ 999 := hy.2
  have go : ∀ I2, lens I2 → outW I I2 → Rp none (shH ru ta rs) I2 J := by
    intro I2 h1 h2
    refine hR none _ I2 J hs (fun _ => rfl) (iv_out hi h1 h2) (qq_ok I I2 (fun p hp => h2.1 p (fun z => ?_)) hq) (fun p hp => h2.1 p (fun z => ?_)) ⟨_, List.mem_cons_self, fun i r z w1 w2 => agO_in ha w2 w1, rfl, fun e he => ?_⟩
    · subst z
      exact absurd hp (by decide)
    · subst z
      exact absurd hp (by decide)
    · rcases List.mem_cons.mp he with rfl | he
      · have y := hce _ List.mem_cons_self
        show inI _ (I2 93 68).toInt
        rw [h2.2 68 (by omega)]
        exact y
      · rw [List.mem_singleton.mp he]
        have y := hce _ (List.mem_cons_of_mem _ List.mem_cons_self)
        show inI _ (I2 93 64).toInt
        rw [h2.2 64 (by omega)]
        exact y
  exact hm_shortens l d b (by omega) y ru ta rs I J Rp (fun g => (fun u => go _ u.1 u.2) (sh_upd1 (by omega) hL hy1 hy2 g)) (fun g => (fun u => go _ u.1 u.2) (sh_upd2 (by omega) hL hy1 hy2 g))
def ck_X12_dayBegins_0 : AK := (10, [.inr (.inl [67])], [91, 93], false, [([], .inr (.inr 9), [(93, 68, fr), (93, 64, (.ofNat 0, .ofNat 0))])], [(93, 68, fr), (93, 64, fr)])
def cg_X12_dayBegins_0 : List (Nat × AK) := [(393, ck_X12_draw_0), (396, ck_X12_growsOf_0), (399, ck_X12_spoilsOf_0), (387, ck_X12_shortens_0), (378, ck_X12_least_0), (378, ck_X12_least_1)]
def ca_X12_dayBegins_0 : List (Nat × AA) := [(34, [(.ofNat 0, .ofNat 0), (.ofNat 0, .ofNat 8), (.negSucc 8, .ofNat 9), (.ofNat 0, .ofNat 0), (.negSucc 30311, .ofNat 30312)], [.inr (.inl [67]), .inl (1, .ofNat 0), .inr (.inr 0)], [], [(93, 66, 2, .ofNat 0), (93, 64, 3, .ofNat 0), (93, 68, 4, .ofNat 0)], [(0, 1, 0), (2, 93, 66), (2, 93, 64), (2, 93, 68)], (.ofNat 21, [.ofNat 0, .negSucc 0, .ofNat 0, .ofNat 0, .ofNat 0])), (91, [(.ofNat 0, .ofNat 0), (.ofNat 0, .ofNat 12), (.ofNat 0, .ofNat 8), (.ofNat 0, .ofNat 0), fr], [.inr (.inl [67]), .inl (1, .ofNat 0), .inr (.inr 0)], [], [(68, 0, 2, .ofNat 0), (93, 64, 3, .ofNat 0), (93, 68, 4, .ofNat 0)], [(0, 1, 0), (2, 68, 0), (2, 93, 64), (2, 93, 68)], (.ofNat 12, [.ofNat 0, .negSucc 0, .ofNat 0, .ofNat 0, .ofNat 0]))]
set_option maxRecDepth 100000 in
theorem cc_X12_dayBegins_0 : aChk QPl CF ck_X12_dayBegins_0 cg_X12_dayBegins_0 xxX12 mX12_dayBegins tX12_dayBegins ca_X12_dayBegins_0 [] 22 = true := by decide +kernel
theorem cx_X12_dayBegins_0 : ctsO QQ CF xxX12 cg_X12_dayBegins_0 := ctsO_cons rfl ct_X12_draw_0 (ctsO_cons rfl ct_X12_growsOf_0 (ctsO_cons rfl ct_X12_spoilsOf_0 (ctsO_cons rfl ct_X12_shortens_0 (ctsO_cons rfl ct_X12_least_0 (ctsO_cons rfl ct_X12_least_1 (ctsO_nil))))))
theorem ct_X12_dayBegins_0 : ctrO QQ CF ck_X12_dayBegins_0 mX12_dayBegins := chk_ok (Q := QQ) (QP := QPl) (C := CF) (c := ck_X12_dayBegins_0) (G := cg_X12_dayBegins_0) (X := xxX12) (M := mX12_dayBegins) (t := tX12_dayBegins) (anns := ca_X12_dayBegins_0) 22 xx12 pl12 rfl kX12_dayBegins qq_ok cx_X12_dayBegins_0 cc_X12_dayBegins_0
def ck_X12_hourPasses_0 : AK := (11, [.inr (.inl [67])], [91, 93], false, [([], .inr (.inr 9), [(93, 68, fr)])], [(93, 68, fr)])
def cg_X12_hourPasses_0 : List (Nat × AK) := [(402, ck_X12_dayBegins_0)]
def ca_X12_hourPasses_0 : List (Nat × AA) := [(13, [(.ofNat 0, .ofNat 0), (.ofNat 0, .ofNat 4)], [.inr (.inl [67]), .inl (1, .ofNat 0)], [], [], [(0, 1, 0)], (.ofNat 4, [.ofNat 0, .negSucc 0]))]
set_option maxRecDepth 100000 in
theorem cc_X12_hourPasses_0 : aChk QPl CF ck_X12_hourPasses_0 cg_X12_hourPasses_0 xxX12 mX12_hourPasses tX12_hourPasses ca_X12_hourPasses_0 [] 5 = true := by decide +kernel
theorem cx_X12_hourPasses_0 : ctsO QQ CF xxX12 cg_X12_hourPasses_0 := ctsO_cons rfl ct_X12_dayBegins_0 (ctsO_nil)
theorem ct_X12_hourPasses_0 : ctrO QQ CF ck_X12_hourPasses_0 mX12_hourPasses := chk_ok (Q := QQ) (QP := QPl) (C := CF) (c := ck_X12_hourPasses_0) (G := cg_X12_hourPasses_0) (X := xxX12) (M := mX12_hourPasses) (t := tX12_hourPasses) (anns := ca_X12_hourPasses_0) 5 xx12 pl12 rfl kX12_hourPasses qq_ok cx_X12_hourPasses_0 cc_X12_hourPasses_0
def ck_X12_canPass_0 : AK := (1, [.inr (.inl [67])], [], false, [([], .inl (.ofNat 1, .ofNat 1), []), ([], .inl (.ofNat 0, .ofNat 0), [])], [])
def cg_X12_canPass_0 : List (Nat × AK) := []
def ca_X12_canPass_0 : List (Nat × AA) := []
set_option maxRecDepth 100000 in
theorem cc_X12_canPass_0 : aChk QPl CF ck_X12_canPass_0 cg_X12_canPass_0 xxX12 mX12_canPass tX12_canPass ca_X12_canPass_0 [] 1 = true := by decide +kernel
theorem cx_X12_canPass_0 : ctsO QQ CF xxX12 cg_X12_canPass_0 := ctsO_nil
theorem ct_X12_canPass_0 : ctrO QQ CF ck_X12_canPass_0 mX12_canPass := chk_ok (Q := QQ) (QP := QPl) (C := CF) (c := ck_X12_canPass_0) (G := cg_X12_canPass_0) (X := xxX12) (M := mX12_canPass) (t := tX12_canPass) (anns := ca_X12_canPass_0) 1 xx12 pl12 rfl kX12_canPass qq_ok cx_X12_canPass_0 cc_X12_canPass_0
def ck_X12_laysNow_0 : AK := (1, [.inr (.inl [67])], [93], false, [([], .inr (.inr 9), [])], [])
def cg_X12_laysNow_0 : List (Nat × AK) := []
def ca_X12_laysNow_0_2 : Nat × AA := (2, [(.ofNat 0, .ofNat 0), (.ofNat 0, .ofNat 69)], [.inr (.inl [67]), .inl (1, .ofNat 0)], [], [], [(0, 1, 0)], (.ofNat 69, [.ofNat 0, .negSucc 0]))
def ca_X12_laysNow_0 : List (Nat × AA) := [ca_X12_laysNow_0_2]
set_option maxRecDepth 100000 in
theorem cc_X12_laysNow_0 : aChk QPl CF ck_X12_laysNow_0 cg_X12_laysNow_0 xxX12 mX12_laysNow tX12_laysNow ca_X12_laysNow_0 [2] 70 = true := by decide +kernel
theorem cx_X12_laysNow_0 : ctsO QQ CF xxX12 cg_X12_laysNow_0 := ctsO_nil
set_option maxRecDepth 100000 in
theorem ce_X12_laysNow_0_2 : ((List.range 70).all fun k => aN CF ck_X12_laysNow_0.2.2.1 ck_X12_laysNow_0.2.2.2.1 cg_X12_laysNow_0 (ck_X12_laysNow_0.1 - 1) ck_X12_laysNow_0.2.2.2.2.1 xxX12 mX12_laysNow.2.2.2 tX12_laysNow (ca_X12_laysNow_0.map fun q => q.1) (kkA CF ((aInts ck_X12_laysNow_0.2.1).length + 1) ca_X12_laysNow_0 (some ca_X12_laysNow_0_2.2.2.2.2.2.2)) 2 (enS ca_X12_laysNow_0_2.2 1 ((Int.ofNat 0 : Int) + (k : Int)))) = true := by decide +kernel
theorem seg_X12_laysNow_0 : ∀ q, q ∈ ca_X12_laysNow_0 → nmem q.1 [2] = true → ∀ (l : Launch) (d : Nat) (sh : List XO) (I : XI) (as : List Value) (Rp : XR), agO ck_X12_laysNow_0.2.1 as → (∀ I2, frO ck_X12_laysNow_0.2.2.1 I I2 → QQ I2) → outO QQ CF ck_X12_laysNow_0.2.2.1 ck_X12_laysNow_0.2.2.2.1 sh I ck_X12_laysNow_0.2.2.2.2.1 as Rp → segO CF ck_X12_laysNow_0.2.2.1 ck_X12_laysNow_0.2.2.2.1 sh I xxX12 mX12_laysNow.2.2.2 (!(Nat.beq 0 0)) sh.length 0 0 l (d + (ck_X12_laysNow_0.1 - 1)) tX12_laysNow (ca_X12_laysNow_0.map fun q => q.1) Rp as ca_X12_laysNow_0 (aInts ck_X12_laysNow_0.2.1).length q := by
  intro q hq hz l d sh0 I0 as Rp ha hQ hO
  simp only [ca_X12_laysNow_0, List.mem_cons, List.not_mem_nil, or_false] at hq
  rcases hq with rfl
  · exact seg_enum hQ cx_X12_laysNow_0 hO 1 69 (Int.ofNat 0 : Int) rfl (fun k hk => List.all_eq_true.mp ce_X12_laysNow_0_2 k (List.mem_range.mpr (by omega)))
theorem ct_X12_laysNow_0 : ctrO QQ CF ck_X12_laysNow_0 mX12_laysNow := chk_okS (Q := QQ) (QP := QPl) (C := CF) (c := ck_X12_laysNow_0) (G := cg_X12_laysNow_0) (X := xxX12) (M := mX12_laysNow) (t := tX12_laysNow) (anns := ca_X12_laysNow_0) [2] 70 xx12 pl12 rfl kX12_laysNow qq_ok cx_X12_laysNow_0 seg_X12_laysNow_0 cc_X12_laysNow_0
def ck_X12_keepsNow_0 : AK := (1, [.inr (.inl [67])], [68], false, [([], .inr (.inr 9), [])], [])
def cg_X12_keepsNow_0 : List (Nat × AK) := []
def ca_X12_keepsNow_0_2 : Nat × AA := (2, [(.ofNat 0, .ofNat 0), (.ofNat 0, .ofNat 69)], [.inr (.inl [67]), .inl (1, .ofNat 0)], [], [], [(0, 1, 0)], (.ofNat 69, [.ofNat 0, .negSucc 0]))
def ca_X12_keepsNow_0 : List (Nat × AA) := [ca_X12_keepsNow_0_2]
set_option maxRecDepth 100000 in
theorem cc_X12_keepsNow_0 : aChk QPl CF ck_X12_keepsNow_0 cg_X12_keepsNow_0 xxX12 mX12_keepsNow tX12_keepsNow ca_X12_keepsNow_0 [2] 70 = true := by decide +kernel
theorem cx_X12_keepsNow_0 : ctsO QQ CF xxX12 cg_X12_keepsNow_0 := ctsO_nil
set_option maxRecDepth 100000 in
theorem ce_X12_keepsNow_0_2 : ((List.range 70).all fun k => aN CF ck_X12_keepsNow_0.2.2.1 ck_X12_keepsNow_0.2.2.2.1 cg_X12_keepsNow_0 (ck_X12_keepsNow_0.1 - 1) ck_X12_keepsNow_0.2.2.2.2.1 xxX12 mX12_keepsNow.2.2.2 tX12_keepsNow (ca_X12_keepsNow_0.map fun q => q.1) (kkA CF ((aInts ck_X12_keepsNow_0.2.1).length + 1) ca_X12_keepsNow_0 (some ca_X12_keepsNow_0_2.2.2.2.2.2.2)) 2 (enS ca_X12_keepsNow_0_2.2 1 ((Int.ofNat 0 : Int) + (k : Int)))) = true := by decide +kernel
theorem seg_X12_keepsNow_0 : ∀ q, q ∈ ca_X12_keepsNow_0 → nmem q.1 [2] = true → ∀ (l : Launch) (d : Nat) (sh : List XO) (I : XI) (as : List Value) (Rp : XR), agO ck_X12_keepsNow_0.2.1 as → (∀ I2, frO ck_X12_keepsNow_0.2.2.1 I I2 → QQ I2) → outO QQ CF ck_X12_keepsNow_0.2.2.1 ck_X12_keepsNow_0.2.2.2.1 sh I ck_X12_keepsNow_0.2.2.2.2.1 as Rp → segO CF ck_X12_keepsNow_0.2.2.1 ck_X12_keepsNow_0.2.2.2.1 sh I xxX12 mX12_keepsNow.2.2.2 (!(Nat.beq 0 0)) sh.length 0 0 l (d + (ck_X12_keepsNow_0.1 - 1)) tX12_keepsNow (ca_X12_keepsNow_0.map fun q => q.1) Rp as ca_X12_keepsNow_0 (aInts ck_X12_keepsNow_0.2.1).length q := by
  intro q hq hz l d sh0 I0 as Rp ha hQ hO
  simp only [ca_X12_keepsNow_0, List.mem_cons, List.not_mem_nil, or_false] at hq
  rcases hq with rfl
  · exact seg_enum hQ cx_X12_keepsNow_0 hO 1 69 (Int.ofNat 0 : Int) rfl (fun k hk => List.all_eq_true.mp ce_X12_keepsNow_0_2 k (List.mem_range.mpr (by omega)))
theorem ct_X12_keepsNow_0 : ctrO QQ CF ck_X12_keepsNow_0 mX12_keepsNow := chk_okS (Q := QQ) (QP := QPl) (C := CF) (c := ck_X12_keepsNow_0) (G := cg_X12_keepsNow_0) (X := xxX12) (M := mX12_keepsNow) (t := tX12_keepsNow) (anns := ca_X12_keepsNow_0) [2] 70 xx12 pl12 rfl kX12_keepsNow qq_ok cx_X12_keepsNow_0 seg_X12_keepsNow_0 cc_X12_keepsNow_0
def ck_X12_keepsStep_0 : AK := (1, [.inr (.inl [67])], [68], false, [([], .inr (.inr 9), [(68, 0, (.ofNat 0, .ofNat 8)), (68, 1, (.ofNat 0, .ofNat 4)), (68, 2, (.ofNat 0, .ofNat 4))])], [(68, 0, (.ofNat 0, .ofNat 8)), (68, 1, (.ofNat 0, .ofNat 4)), (68, 2, (.ofNat 0, .ofNat 4))])
def cg_X12_keepsStep_0 : List (Nat × AK) := []
def ca_X12_keepsStep_0_15 : Nat × AA := (15, [(.ofNat 0, .ofNat 0), (.ofNat 130, .ofNat 2131), (.ofNat 30, .ofNat 30)], [.inr (.inl [67]), .inl (1, .ofNat 0)], [], [(68, 5, 2, .ofNat 0)], [(0, 1, 0), (2, 68, 5)], (.ofNat 2203, [.ofNat 0, .negSucc 0, .ofNat 0]))
def ca_X12_keepsStep_0_43 : Nat × AA := (43, [(.ofNat 0, .ofNat 0), (.ofNat 2131, .ofNat 2131), (.ofNat 30, .ofNat 30)], [.inr (.inl [67]), .inl (1, .ofNat 0)], [], [(68, 5, 2, .ofNat 0)], [(0, 1, 0), (2, 68, 5)], (.ofNat 71, [.ofNat 0, .ofNat 0, .ofNat 0]))
def ca_X12_keepsStep_0_53 : Nat × AA := (53, [(.ofNat 0, .ofNat 0), (.ofNat 0, .ofNat 69), (.ofNat 0, .ofNat 29)], [.inr (.inl [67]), .inl (1, .ofNat 0)], [], [(68, 5, 2, .ofNat 0)], [(0, 1, 0), (2, 68, 5)], (.ofNat 70, [.ofNat 0, .negSucc 0, .ofNat 0]))
def ca_X12_keepsStep_0_94 : Nat × AA := (94, [(.ofNat 0, .ofNat 0), (.ofNat 69, .ofNat 69), (.ofNat 0, .ofNat 29)], [.inr (.inl [67]), .inl (1, .ofNat 0)], [], [(68, 5, 2, .ofNat 0)], [(0, 1, 0), (2, 68, 5)], (.ofNat 0, [.ofNat 0, .ofNat 0, .ofNat 0]))
def ca_X12_keepsStep_0 : List (Nat × AA) := [ca_X12_keepsStep_0_15, ca_X12_keepsStep_0_43, ca_X12_keepsStep_0_53, ca_X12_keepsStep_0_94]
set_option maxRecDepth 100000 in
theorem cc_X12_keepsStep_0 : aChk QPl CF ck_X12_keepsStep_0 cg_X12_keepsStep_0 xxX12 mX12_keepsStep tX12_keepsStep ca_X12_keepsStep_0 [15, 53] 2074 = true := by decide +kernel
theorem cx_X12_keepsStep_0 : ctsO QQ CF xxX12 cg_X12_keepsStep_0 := ctsO_nil
set_option maxRecDepth 100000 in
set_option maxHeartbeats 4000000 in
theorem seg_X12_keepsStep_0 : ∀ q, q ∈ ca_X12_keepsStep_0 → nmem q.1 [15, 53] = true → ∀ (l : Launch) (d : Nat) (sh : List XO) (I : XI) (as : List Value) (Rp : XR), agO ck_X12_keepsStep_0.2.1 as → (∀ I2, frO ck_X12_keepsStep_0.2.2.1 I I2 → QQ I2) → outO QQ CF ck_X12_keepsStep_0.2.2.1 ck_X12_keepsStep_0.2.2.2.1 sh I ck_X12_keepsStep_0.2.2.2.2.1 as Rp → segO CF ck_X12_keepsStep_0.2.2.1 ck_X12_keepsStep_0.2.2.2.1 sh I xxX12 mX12_keepsStep.2.2.2 (!(Nat.beq 0 0)) sh.length 0 0 l (d + (ck_X12_keepsStep_0.1 - 1)) tX12_keepsStep (ca_X12_keepsStep_0.map fun q => q.1) Rp as ca_X12_keepsStep_0 (aInts ck_X12_keepsStep_0.2.1).length q := by
  intro q hq hz l d sh0 I0 as Rp ha _ _ K R lc st sh I J hK hg hp
  simp only [ca_X12_keepsStep_0, List.mem_cons, List.not_mem_nil, or_false] at hq
  rcases hq with rfl | rfl | rfl | rfl
  · cases st with
    | cons _ _ => exact hg.2.1.2.elim
    | nil =>
      obtain ⟨ru, ta, rs, _, _, rfl⟩ := shX hg.2.2.2.1
      obtain ⟨o0, e0, p0, hp0, y0⟩ := hg.2.1.1 0 (.inr (.inl [67])) rfl
      obtain ⟨o1, e1, x, y1, z, hzk, hx⟩ := hg.2.1.1 1 (.inl (1, .ofNat 0)) rfl
      obtain ⟨a0, a1, r, rfl⟩ := ex2 e1
      cases e0
      cases e1
      subst y0 y1
      have hp0 := List.mem_singleton.mp hp0
      subst hp0
      replace hx : x.toInt = z + 0 := hx
      have hzE : inI ((130 : Int), (2131 : Int)) z := hg.1.1.2 1 z _ hzk rfl
      have hz1 := hzE.1
      have hz2 := hzE.2
      dsimp only at hz1 hz2
      obtain ⟨k, rfl, hk0, hk, _⟩ := nI_inI (x := x) (a := 130) (b := 2131) (by rw [hx]; exact ⟨by show (130 : Int) ≤ z + 0; omega, by show z + 0 ≤ (2131 : Int); omega⟩) (by decide)
      have hkz : (k : Int) = z := by
        rw [nI_toInt (by omega)] at hx
        omega
      have hT : ∀ e, e ∈ ca_X12_keepsStep_0_15.2.2.2.2.1 → e.1 = 68 → e.2.1 < 60 := by decide
      have out : k = 2131 → K 43 (some (.ref 67) :: some (.int (nI k)) :: r) [] (shH ru ta rs) I J 0 0 := by
        intro hkk
        exact hK 43 (ca_X12_keepsStep_0_15.2.1.set 1 (2131, 2131), ca_X12_keepsStep_0_15.2.2.1, ca_X12_keepsStep_0_15.2.2.2.1, ca_X12_keepsStep_0_15.2.2.2.2.1) (by decide +kernel) R _ [] _ I J (ga_setE (S := stA ca_X12_keepsStep_0_15.2) (r := (2131, 2131)) rfl hzk ⟨by show (2131 : Int) ≤ z; omega, by show z ≤ (2131 : Int); omega⟩ hg)
      have fin : ∀ I2, ga CF ck_X12_keepsStep_0.2.2.1 ck_X12_keepsStep_0.2.2.2.1 sh0 I0 R R (stA ca_X12_keepsStep_0_15.2) (some (.ref 67) :: some (.int (nI k)) :: r) [] (shH ru ta rs) I2 → k < 2131 → K 15 (some (.ref 67) :: some (.int (nI k + 1)) :: r) [] (shH ru ta rs) I2 J 0 0 := by
        intro I2 h2 hkk
        have h3 := ga_setE (S := stA ca_X12_keepsStep_0_15.2) (r := (130, 2130)) rfl hzk ⟨by show (130 : Int) ≤ z; omega, by show z ≤ (2130 : Int); omega⟩ h2
        refine hK 15 (ca_X12_keepsStep_0_15.2.1.set 1 (130, 2130), [.inr (.inl [67]), .inl (1, .ofNat 1)], [], ca_X12_keepsStep_0_15.2.2.2.2.1) (by decide +kernel) R _ [] _ I2 J ⟨h3.1, ⟨fun i a ha => ?_, trivial⟩, h3.2.2⟩
        match i, ha with
        | 0, ha =>
          cases ha
          exact ⟨_, rfl, 67, List.mem_singleton.mpr rfl, rfl⟩
        | 1, ha =>
          cases ha
          exact ⟨_, rfl, _, rfl, num_add1 hzk hx (by omega)⟩
        | _ + 2, ha => cases ha
      refine And.intro (fun h => out ?_) (fun h => ?_)
      · rcases Nat.lt_or_ge k 2131 with y | y
        · exact absurd h (nI_ge (a := k) (b := 2131) y (by omega))
        · omega
      have hk2 : k < 2131 := by
        rcases Nat.lt_or_ge k 2131 with y | y
        · exact y
        · exact absurd (nI_le (a := 2131) (b := k) y (by omega)) h
      have q1 : (nI k).toNatClampNeg = k := nI_clamp (by omega)
      have q2 : (nI k + nI 69).toNatClampNeg = k + 69 := by rw [nI_add]; exact nI_clamp (by omega)
      have w2 : vp_in (nI k + nI 69) 2200 := by rw [nI_add]; exact vp_in_nI (by omega) (by omega)
      refine And.intro w2 (And.intro (vp_in_nI (N := 2200) (by omega) (by omega)) ?_)
      have y := fin (uI I 68 k (I 68 (k + 69))) (ga_put68 hg rfl hT (by omega) (by omega) (cell_next (by omega))) (by omega)
      have z : uI I 68 (nI k).toNatClampNeg (I 68 (nI k + nI 69).toNatClampNeg) = uI I 68 k (I 68 (k + 69)) := by rw [q1, q2]
      rw [← z] at y
      exact y
  · exact absurd hz (by decide)
  · cases st with
    | cons _ _ => exact hg.2.1.2.elim
    | nil =>
      obtain ⟨ru, ta, rs, _, _, rfl⟩ := shX hg.2.2.2.1
      obtain ⟨o0, e0, p0, hp0, y0⟩ := hg.2.1.1 0 (.inr (.inl [67])) rfl
      obtain ⟨o1, e1, x, y1, z, hzk, hx⟩ := hg.2.1.1 1 (.inl (1, .ofNat 0)) rfl
      obtain ⟨a0, a1, r, rfl⟩ := ex2 e1
      cases e0
      cases e1
      subst y0 y1
      have hp0 := List.mem_singleton.mp hp0
      subst hp0
      replace hx : x.toInt = z + 0 := hx
      have hzE : inI ((0 : Int), (69 : Int)) z := hg.1.1.2 1 z _ hzk rfl
      have hz1 := hzE.1
      have hz2 := hzE.2
      dsimp only at hz1 hz2
      obtain ⟨k, rfl, hk0, hk, _⟩ := nI_inI (x := x) (a := 0) (b := 69) (by rw [hx]; exact ⟨by show (0 : Int) ≤ z + 0; omega, by show z + 0 ≤ (69 : Int); omega⟩) (by decide)
      have hkz : (k : Int) = z := by
        rw [nI_toInt (by omega)] at hx
        omega
      have hT : ∀ e, e ∈ ca_X12_keepsStep_0_53.2.2.2.2.1 → e.1 = 68 → e.2.1 < 60 := by decide
      have out : k = 69 → K 94 (some (.ref 67) :: some (.int (nI k)) :: r) [] (shH ru ta rs) I J 0 0 := by
        intro hkk
        exact hK 94 (ca_X12_keepsStep_0_53.2.1.set 1 (69, 69), ca_X12_keepsStep_0_53.2.2.1, ca_X12_keepsStep_0_53.2.2.2.1, ca_X12_keepsStep_0_53.2.2.2.2.1) (by decide +kernel) R _ [] _ I J (ga_setE (S := stA ca_X12_keepsStep_0_53.2) (r := (69, 69)) rfl hzk ⟨by show (69 : Int) ≤ z; omega, by show z ≤ (69 : Int); omega⟩ hg)
      have fin : ∀ I2, ga CF ck_X12_keepsStep_0.2.2.1 ck_X12_keepsStep_0.2.2.2.1 sh0 I0 R R (stA ca_X12_keepsStep_0_53.2) (some (.ref 67) :: some (.int (nI k)) :: r) [] (shH ru ta rs) I2 → k < 69 → K 53 (some (.ref 67) :: some (.int (nI k + 1)) :: r) [] (shH ru ta rs) I2 J 0 0 := by
        intro I2 h2 hkk
        have h3 := ga_setE (S := stA ca_X12_keepsStep_0_53.2) (r := (0, 68)) rfl hzk ⟨by show (0 : Int) ≤ z; omega, by show z ≤ (68 : Int); omega⟩ h2
        refine hK 53 (ca_X12_keepsStep_0_53.2.1.set 1 (0, 68), [.inr (.inl [67]), .inl (1, .ofNat 1)], [], ca_X12_keepsStep_0_53.2.2.2.2.1) (by decide +kernel) R _ [] _ I2 J ⟨h3.1, ⟨fun i a ha => ?_, trivial⟩, h3.2.2⟩
        match i, ha with
        | 0, ha =>
          cases ha
          exact ⟨_, rfl, 67, List.mem_singleton.mpr rfl, rfl⟩
        | 1, ha =>
          cases ha
          exact ⟨_, rfl, _, rfl, num_add1 hzk hx (by omega)⟩
        | _ + 2, ha => cases ha
      obtain ⟨s, hs2, hsx⟩ : numO R (2, .ofNat 0) (I 68 5) := hg.2.2.1.1 68 5 _ rfl
      replace hsx : (I 68 5).toInt = s := hsx.trans (Int.add_zero s)
      have hsE : inI ((0 : Int), (29 : Int)) s := hg.1.1.2 2 s _ hs2 rfl
      obtain ⟨S, eS, _, hS, _⟩ := nI_inI (x := I 68 5) (a := 0) (b := 29) (by rw [hsx]; exact ⟨by show (0 : Int) ≤ s; exact hsE.1, by show s ≤ (29 : Int); exact hsE.2⟩) (by decide)
      refine And.intro (fun h => out ?_) (fun h => ?_)
      · rcases Nat.lt_or_ge k 69 with y | y
        · exact absurd h (nI_ge (a := k) (b := 69) y (by omega))
        · omega
      have hk2 : k < 69 := by
        rcases Nat.lt_or_ge k 69 with y | y
        · exact y
        · exact absurd (nI_le (a := 69) (b := k) y (by omega)) h
      obtain ⟨q1, w1⟩ := ix_col (S := S) (k := k) (by omega) hk2
      obtain ⟨q2, w2⟩ := ix_row hk2
      rw [← eS] at q1 w1
      refine And.intro (vp_in_nI (N := 2200) (n := 5) (by omega) (by omega)) (And.intro w2 (And.intro w1 ?_))
      have y := fin (uI I 68 (130 + 69 * S + k) (I 68 (60 + k))) (ga_put68 hg rfl hT (by omega) (by omega) (cell_col hk2)) (by omega)
      rw [← q1, ← q2] at y
      exact y
  · exact absurd hz (by decide)
theorem ct_X12_keepsStep_0 : ctrO QQ CF ck_X12_keepsStep_0 mX12_keepsStep := chk_okS (Q := QQ) (QP := QPl) (C := CF) (c := ck_X12_keepsStep_0) (G := cg_X12_keepsStep_0) (X := xxX12) (M := mX12_keepsStep) (t := tX12_keepsStep) (anns := ca_X12_keepsStep_0) [15, 53] 2074 xx12 pl12 rfl kX12_keepsStep qq_ok cx_X12_keepsStep_0 seg_X12_keepsStep_0 cc_X12_keepsStep_0
def ck_X12_in_0 : AK := (1, [.inl fr, .inl (.ofNat 0, .ofNat 0), .inl (.negSucc 0, .ofNat 3)], [], false, [([(.ofNat 0, .ofNat 3), (.ofNat 0, .ofNat 0), (.ofNat 0, .ofNat 3)], .inl (.ofNat 1, .ofNat 1), []), ([fr, (.ofNat 0, .ofNat 0), (.negSucc 0, .ofNat 3)], .inl (.ofNat 0, .ofNat 0), [])], [])
def cg_X12_in_0 : List (Nat × AK) := []
def ca_X12_in_0 : List (Nat × AA) := []
set_option maxRecDepth 100000 in
theorem cc_X12_in_0 : aChk QPl CF ck_X12_in_0 cg_X12_in_0 xxX12 mX12_in tX12_in ca_X12_in_0 [] 1 = true := by decide +kernel
theorem cx_X12_in_0 : ctsO QQ CF xxX12 cg_X12_in_0 := ctsO_nil
theorem ct_X12_in_0 : ctrO QQ CF ck_X12_in_0 mX12_in := chk_ok (Q := QQ) (QP := QPl) (C := CF) (c := ck_X12_in_0) (G := cg_X12_in_0) (X := xxX12) (M := mX12_in) (t := tX12_in) (anns := ca_X12_in_0) 1 xx12 pl12 rfl kX12_in qq_ok cx_X12_in_0 cc_X12_in_0
def ck_X12_isBarn_0 : AK := (2, [.inr (.inl [67]), .inl fr], [], false, [([(.ofNat 0, .ofNat 3)], .inl (.ofNat 1, .ofNat 1), []), ([fr], .inl (.ofNat 0, .ofNat 0), [])], [])
def cg_X12_isBarn_0 : List (Nat × AK) := [(116, ck_X12_in_0)]
def ca_X12_isBarn_0 : List (Nat × AA) := []
set_option maxRecDepth 100000 in
theorem cc_X12_isBarn_0 : aChk QPl CF ck_X12_isBarn_0 cg_X12_isBarn_0 xxX12 mX12_isBarn tX12_isBarn ca_X12_isBarn_0 [] 1 = true := by decide +kernel
theorem cx_X12_isBarn_0 : ctsO QQ CF xxX12 cg_X12_isBarn_0 := ctsO_cons rfl ct_X12_in_0 (ctsO_nil)
theorem ct_X12_isBarn_0 : ctrO QQ CF ck_X12_isBarn_0 mX12_isBarn := chk_ok (Q := QQ) (QP := QPl) (C := CF) (c := ck_X12_isBarn_0) (G := cg_X12_isBarn_0) (X := xxX12) (M := mX12_isBarn) (t := tX12_isBarn) (anns := ca_X12_isBarn_0) 1 xx12 pl12 rfl kX12_isBarn qq_ok cx_X12_isBarn_0 cc_X12_isBarn_0
def ck_X12_barnsBy_0 : AK := (1, [.inr (.inl [67]), .inl (.ofNat 0, .ofNat 6)], [], false, [([(.ofNat 0, .ofNat 6)], .inl fr, []), ([(.ofNat 0, .ofNat 6)], .inl (.negSucc 0, .negSucc 0), [])], [])
def cg_X12_barnsBy_0 : List (Nat × AK) := []
def ca_X12_barnsBy_0 : List (Nat × AA) := [(4, [(.ofNat 0, .ofNat 0), (.ofNat 0, .ofNat 6), fr, (.ofNat 0, .ofNat 4)], [.inr (.inl [67]), .inl (1, .ofNat 0), .inl (2, .ofNat 0), .inl (3, .ofNat 0), .inr (.inr 0), .inr (.inr 0), .inr (.inr 0), .inr (.inr 0)], [], [], [(0, 2, 0), (0, 3, 0)], (.ofNat 39, [.ofNat 0, .ofNat 0, .ofNat 0, .negSucc 7])), (23, [(.ofNat 0, .ofNat 0), (.ofNat 0, .ofNat 6), fr, (.ofNat 0, .ofNat 3), fr, fr, (.ofNat 0, .ofNat 6), (.ofNat 1, .ofNat 4)], [.inr (.inl [67]), .inl (1, .ofNat 0), .inl (2, .ofNat 0), .inl (3, .ofNat 0), .inl (4, .ofNat 0), .inl (5, .ofNat 0), .inl (6, .ofNat 0), .inr (.inr 0)], [], [(68, 2, 7, .ofNat 0)], [(0, 2, 0), (0, 3, 0), (0, 4, 0), (0, 5, 0), (0, 6, 0), (2, 68, 2)], (.ofNat 38, [.ofNat 0, .ofNat 0, .ofNat 0, .negSucc 7, .ofNat 0, .ofNat 0, .negSucc 0, .ofNat 0]))]
set_option maxRecDepth 100000 in
theorem cc_X12_barnsBy_0 : aChk QPl CF ck_X12_barnsBy_0 cg_X12_barnsBy_0 xxX12 mX12_barnsBy tX12_barnsBy ca_X12_barnsBy_0 [] 40 = true := by decide +kernel
theorem cx_X12_barnsBy_0 : ctsO QQ CF xxX12 cg_X12_barnsBy_0 := ctsO_nil
theorem ct_X12_barnsBy_0 : ctrO QQ CF ck_X12_barnsBy_0 mX12_barnsBy := chk_ok (Q := QQ) (QP := QPl) (C := CF) (c := ck_X12_barnsBy_0) (G := cg_X12_barnsBy_0) (X := xxX12) (M := mX12_barnsBy) (t := tX12_barnsBy) (anns := ca_X12_barnsBy_0) 40 xx12 pl12 rfl kX12_barnsBy qq_ok cx_X12_barnsBy_0 cc_X12_barnsBy_0
def ck_X12_in_1 : AK := (1, [.inl fr, .inl (.ofNat 0, .ofNat 0), .inl (.ofNat 11, .ofNat 11)], [], false, [([(.ofNat 0, .ofNat 11), (.ofNat 0, .ofNat 0), (.ofNat 11, .ofNat 11)], .inl (.ofNat 1, .ofNat 1), []), ([fr, (.ofNat 0, .ofNat 0), (.ofNat 11, .ofNat 11)], .inl (.ofNat 0, .ofNat 0), [])], [])
def cg_X12_in_1 : List (Nat × AK) := []
def ca_X12_in_1 : List (Nat × AA) := []
set_option maxRecDepth 100000 in
theorem cc_X12_in_1 : aChk QPl CF ck_X12_in_1 cg_X12_in_1 xxX12 mX12_in tX12_in ca_X12_in_1 [] 1 = true := by decide +kernel
theorem cx_X12_in_1 : ctsO QQ CF xxX12 cg_X12_in_1 := ctsO_nil
theorem ct_X12_in_1 : ctrO QQ CF ck_X12_in_1 mX12_in := chk_ok (Q := QQ) (QP := QPl) (C := CF) (c := ck_X12_in_1) (G := cg_X12_in_1) (X := xxX12) (M := mX12_in) (t := tX12_in) (anns := ca_X12_in_1) 1 xx12 pl12 rfl kX12_in qq_ok cx_X12_in_1 cc_X12_in_1
def ck_X12_isBale_0 : AK := (2, [.inr (.inl [67]), .inl fr], [], false, [([(.ofNat 0, .ofNat 11)], .inl (.ofNat 1, .ofNat 1), []), ([fr], .inl (.ofNat 0, .ofNat 0), [])], [])
def cg_X12_isBale_0 : List (Nat × AK) := [(116, ck_X12_in_1)]
def ca_X12_isBale_0 : List (Nat × AA) := []
set_option maxRecDepth 100000 in
theorem cc_X12_isBale_0 : aChk QPl CF ck_X12_isBale_0 cg_X12_isBale_0 xxX12 mX12_isBale tX12_isBale ca_X12_isBale_0 [] 1 = true := by decide +kernel
theorem cx_X12_isBale_0 : ctsO QQ CF xxX12 cg_X12_isBale_0 := ctsO_cons rfl ct_X12_in_1 (ctsO_nil)
theorem ct_X12_isBale_0 : ctrO QQ CF ck_X12_isBale_0 mX12_isBale := chk_ok (Q := QQ) (QP := QPl) (C := CF) (c := ck_X12_isBale_0) (G := cg_X12_isBale_0) (X := xxX12) (M := mX12_isBale) (t := tX12_isBale) (anns := ca_X12_isBale_0) 1 xx12 pl12 rfl kX12_isBale qq_ok cx_X12_isBale_0 cc_X12_isBale_0
def ck_X12_in_2 : AK := (1, [.inl fr, .inl (.ofNat 1, .ofNat 1), .inl (.ofNat 99, .ofNat 99)], [], false, [([(.ofNat 1, .ofNat 99), (.ofNat 1, .ofNat 1), (.ofNat 99, .ofNat 99)], .inl (.ofNat 1, .ofNat 1), []), ([fr, (.ofNat 1, .ofNat 1), (.ofNat 99, .ofNat 99)], .inl (.ofNat 0, .ofNat 0), [])], [])
def cg_X12_in_2 : List (Nat × AK) := []
def ca_X12_in_2 : List (Nat × AA) := []
set_option maxRecDepth 100000 in
theorem cc_X12_in_2 : aChk QPl CF ck_X12_in_2 cg_X12_in_2 xxX12 mX12_in tX12_in ca_X12_in_2 [] 1 = true := by decide +kernel
theorem cx_X12_in_2 : ctsO QQ CF xxX12 cg_X12_in_2 := ctsO_nil
theorem ct_X12_in_2 : ctrO QQ CF ck_X12_in_2 mX12_in := chk_ok (Q := QQ) (QP := QPl) (C := CF) (c := ck_X12_in_2) (G := cg_X12_in_2) (X := xxX12) (M := mX12_in) (t := tX12_in) (anns := ca_X12_in_2) 1 xx12 pl12 rfl kX12_in qq_ok cx_X12_in_2 cc_X12_in_2
def ck_X12_in_3 : AK := (1, [.inl fr, .inl (.ofNat 0, .ofNat 0), .inl (.ofNat 5, .ofNat 5)], [], false, [([(.ofNat 0, .ofNat 5), (.ofNat 0, .ofNat 0), (.ofNat 5, .ofNat 5)], .inl (.ofNat 1, .ofNat 1), []), ([fr, (.ofNat 0, .ofNat 0), (.ofNat 5, .ofNat 5)], .inl (.ofNat 0, .ofNat 0), [])], [])
def cg_X12_in_3 : List (Nat × AK) := []
def ca_X12_in_3 : List (Nat × AA) := []
set_option maxRecDepth 100000 in
theorem cc_X12_in_3 : aChk QPl CF ck_X12_in_3 cg_X12_in_3 xxX12 mX12_in tX12_in ca_X12_in_3 [] 1 = true := by decide +kernel
theorem cx_X12_in_3 : ctsO QQ CF xxX12 cg_X12_in_3 := ctsO_nil
theorem ct_X12_in_3 : ctrO QQ CF ck_X12_in_3 mX12_in := chk_ok (Q := QQ) (QP := QPl) (C := CF) (c := ck_X12_in_3) (G := cg_X12_in_3) (X := xxX12) (M := mX12_in) (t := tX12_in) (anns := ca_X12_in_3) 1 xx12 pl12 rfl kX12_in qq_ok cx_X12_in_3 cc_X12_in_3
def ck_X12_in_4 : AK := (1, [.inl fr, .inl (.ofNat 0, .ofNat 0), .inl (.ofNat 4, .ofNat 4)], [], false, [([(.ofNat 0, .ofNat 4), (.ofNat 0, .ofNat 0), (.ofNat 4, .ofNat 4)], .inl (.ofNat 1, .ofNat 1), []), ([fr, (.ofNat 0, .ofNat 0), (.ofNat 4, .ofNat 4)], .inl (.ofNat 0, .ofNat 0), [])], [])
def cg_X12_in_4 : List (Nat × AK) := []
def ca_X12_in_4 : List (Nat × AA) := []
set_option maxRecDepth 100000 in
theorem cc_X12_in_4 : aChk QPl CF ck_X12_in_4 cg_X12_in_4 xxX12 mX12_in tX12_in ca_X12_in_4 [] 1 = true := by decide +kernel
theorem cx_X12_in_4 : ctsO QQ CF xxX12 cg_X12_in_4 := ctsO_nil
theorem ct_X12_in_4 : ctrO QQ CF ck_X12_in_4 mX12_in := chk_ok (Q := QQ) (QP := QPl) (C := CF) (c := ck_X12_in_4) (G := cg_X12_in_4) (X := xxX12) (M := mX12_in) (t := tX12_in) (anns := ca_X12_in_4) 1 xx12 pl12 rfl kX12_in qq_ok cx_X12_in_4 cc_X12_in_4
def ck_X12_thing_0 : AK := (2, [.inr (.inl [67]), .inl fr, .inl fr, .inl fr], [68], false, [([fr, fr, fr], .inl (.negSucc 0, .negSucc 0), []), ([(.ofNat 1, .ofNat 99), (.ofNat 0, .ofNat 5), (.ofNat 0, .ofNat 4)], .inl (.ofNat 0, .ofNat 7), [])], [])
def cg_X12_thing_0 : List (Nat × AK) := [(116, ck_X12_in_2), (116, ck_X12_in_3), (116, ck_X12_in_4)]
def ca_X12_thing_0 : List (Nat × AA) := [(93, [(.ofNat 0, .ofNat 0), (.ofNat 1, .ofNat 99), (.ofNat 0, .ofNat 5), (.ofNat 0, .ofNat 4), (.ofNat 0, .ofNat 7), (.ofNat 0, .ofNat 30)], [.inr (.inl [67]), .inl (1, .ofNat 0), .inl (2, .ofNat 0), .inl (3, .ofNat 0), .inl (4, .ofNat 0), .inl (5, .ofNat 0)], [], [(68, 0, 4, .ofNat 0)], [(0, 4, 0), (0, 5, 0)], (.ofNat 30, [.ofNat 0, .ofNat 0, .ofNat 0, .ofNat 0, .ofNat 0, .negSucc 0]))]
set_option maxRecDepth 100000 in
theorem cc_X12_thing_0 : aChk QPl CF ck_X12_thing_0 cg_X12_thing_0 xxX12 mX12_thing tX12_thing ca_X12_thing_0 [] 31 = true := by decide +kernel
theorem cx_X12_thing_0 : ctsO QQ CF xxX12 cg_X12_thing_0 := ctsO_cons rfl ct_X12_in_2 (ctsO_cons rfl ct_X12_in_3 (ctsO_cons rfl ct_X12_in_4 (ctsO_nil)))
theorem ct_X12_thing_0 : ctrO QQ CF ck_X12_thing_0 mX12_thing := chk_ok (Q := QQ) (QP := QPl) (C := CF) (c := ck_X12_thing_0) (G := cg_X12_thing_0) (X := xxX12) (M := mX12_thing) (t := tX12_thing) (anns := ca_X12_thing_0) 31 xx12 pl12 rfl kX12_thing qq_ok cx_X12_thing_0 cc_X12_thing_0
def ck_X12_reaper_0 : AK := (2, [.inr (.inl [67]), .inl fr], [68], false, [([fr], .inl (.negSucc 0, .negSucc 0), []), ([(.ofNat 1, .ofNat 99)], .inl (.ofNat 0, .ofNat 3), [])], [])
def cg_X12_reaper_0 : List (Nat × AK) := [(116, ck_X12_in_2)]
def ca_X12_reaper_0 : List (Nat × AA) := []
set_option maxRecDepth 100000 in
theorem cc_X12_reaper_0 : aChk QPl CF ck_X12_reaper_0 cg_X12_reaper_0 xxX12 mX12_reaper tX12_reaper ca_X12_reaper_0 [] 1 = true := by decide +kernel
theorem cx_X12_reaper_0 : ctsO QQ CF xxX12 cg_X12_reaper_0 := ctsO_cons rfl ct_X12_in_2 (ctsO_nil)
theorem ct_X12_reaper_0 : ctrO QQ CF ck_X12_reaper_0 mX12_reaper := chk_ok (Q := QQ) (QP := QPl) (C := CF) (c := ck_X12_reaper_0) (G := cg_X12_reaper_0) (X := xxX12) (M := mX12_reaper) (t := tX12_reaper) (anns := ca_X12_reaper_0) 1 xx12 pl12 rfl kX12_reaper qq_ok cx_X12_reaper_0 cc_X12_reaper_0
def ck_X12_in_5 : AK := (1, [.inl fr, .inl (.ofNat 1, .ofNat 1), .inl (.ofNat 999, .ofNat 999)], [], false, [([(.ofNat 1, .ofNat 999), (.ofNat 1, .ofNat 1), (.ofNat 999, .ofNat 999)], .inl (.ofNat 1, .ofNat 1), []), ([fr, (.ofNat 1, .ofNat 1), (.ofNat 999, .ofNat 999)], .inl (.ofNat 0, .ofNat 0), [])], [])
def cg_X12_in_5 : List (Nat × AK) := []
def ca_X12_in_5 : List (Nat × AA) := []
set_option maxRecDepth 100000 in
theorem cc_X12_in_5 : aChk QPl CF ck_X12_in_5 cg_X12_in_5 xxX12 mX12_in tX12_in ca_X12_in_5 [] 1 = true := by decide +kernel
theorem cx_X12_in_5 : ctsO QQ CF xxX12 cg_X12_in_5 := ctsO_nil
theorem ct_X12_in_5 : ctrO QQ CF ck_X12_in_5 mX12_in := chk_ok (Q := QQ) (QP := QPl) (C := CF) (c := ck_X12_in_5) (G := cg_X12_in_5) (X := xxX12) (M := mX12_in) (t := tX12_in) (anns := ca_X12_in_5) 1 xx12 pl12 rfl kX12_in qq_ok cx_X12_in_5 cc_X12_in_5
def ck_X12_barn_0 : AK := (2, [.inr (.inl [67]), .inl fr], [68], false, [([fr], .inl (.negSucc 0, .negSucc 0), []), ([(.ofNat 1, .ofNat 999)], .inl (.ofNat 0, .ofNat 3), [])], [])
def cg_X12_barn_0 : List (Nat × AK) := [(116, ck_X12_in_5)]
def ca_X12_barn_0 : List (Nat × AA) := []
set_option maxRecDepth 100000 in
theorem cc_X12_barn_0 : aChk QPl CF ck_X12_barn_0 cg_X12_barn_0 xxX12 mX12_barn tX12_barn ca_X12_barn_0 [] 1 = true := by decide +kernel
theorem cx_X12_barn_0 : ctsO QQ CF xxX12 cg_X12_barn_0 := ctsO_cons rfl ct_X12_in_5 (ctsO_nil)
theorem ct_X12_barn_0 : ctrO QQ CF ck_X12_barn_0 mX12_barn := chk_ok (Q := QQ) (QP := QPl) (C := CF) (c := ck_X12_barn_0) (G := cg_X12_barn_0) (X := xxX12) (M := mX12_barn) (t := tX12_barn) (anns := ca_X12_barn_0) 1 xx12 pl12 rfl kX12_barn qq_ok cx_X12_barn_0 cc_X12_barn_0
def ck_X12_undo_0 : AK := (1, [.inr (.inl [67])], [68], false, [([], .inl (.negSucc 0, .negSucc 0), []), ([], .inl (.ofNat 0, .ofNat 29), [])], [])
def cg_X12_undo_0 : List (Nat × AK) := []
def ca_X12_undo_0_23 : Nat × AA := (23, [(.ofNat 0, .ofNat 0), (.ofNat 0, .ofNat 69), (.ofNat 0, .ofNat 29)], [.inr (.inl [67]), .inl (1, .ofNat 0)], [], [(68, 5, 2, .ofNat 0)], [(0, 1, 0), (2, 68, 5)], (.ofNat 70, [.ofNat 0, .negSucc 0, .ofNat 0]))
def ca_X12_undo_0_64 : Nat × AA := (64, [(.ofNat 0, .ofNat 0), (.ofNat 69, .ofNat 69), (.ofNat 0, .ofNat 29)], [.inr (.inl [67]), .inl (1, .ofNat 0)], [], [(68, 5, 2, .ofNat 0)], [(0, 1, 0), (2, 68, 5)], (.ofNat 0, [.ofNat 0, .ofNat 0, .ofNat 0]))
def ca_X12_undo_0 : List (Nat × AA) := [ca_X12_undo_0_23, ca_X12_undo_0_64]
set_option maxRecDepth 100000 in
theorem cc_X12_undo_0 : aChk QPl CF ck_X12_undo_0 cg_X12_undo_0 xxX12 mX12_undo tX12_undo ca_X12_undo_0 [23] 71 = true := by decide +kernel
theorem cx_X12_undo_0 : ctsO QQ CF xxX12 cg_X12_undo_0 := ctsO_nil
set_option maxRecDepth 100000 in
set_option maxHeartbeats 4000000 in
theorem seg_X12_undo_0 : ∀ q, q ∈ ca_X12_undo_0 → nmem q.1 [23] = true → ∀ (l : Launch) (d : Nat) (sh : List XO) (I : XI) (as : List Value) (Rp : XR), agO ck_X12_undo_0.2.1 as → (∀ I2, frO ck_X12_undo_0.2.2.1 I I2 → QQ I2) → outO QQ CF ck_X12_undo_0.2.2.1 ck_X12_undo_0.2.2.2.1 sh I ck_X12_undo_0.2.2.2.2.1 as Rp → segO CF ck_X12_undo_0.2.2.1 ck_X12_undo_0.2.2.2.1 sh I xxX12 mX12_undo.2.2.2 (!(Nat.beq 0 0)) sh.length 0 0 l (d + (ck_X12_undo_0.1 - 1)) tX12_undo (ca_X12_undo_0.map fun q => q.1) Rp as ca_X12_undo_0 (aInts ck_X12_undo_0.2.1).length q := by
  intro q hq hz l d sh0 I0 as Rp ha _ _ K R lc st sh I J hK hg hp
  simp only [ca_X12_undo_0, List.mem_cons, List.not_mem_nil, or_false] at hq
  rcases hq with rfl | rfl
  · cases st with
    | cons _ _ => exact hg.2.1.2.elim
    | nil =>
      obtain ⟨ru, ta, rs, _, _, rfl⟩ := shX hg.2.2.2.1
      obtain ⟨o0, e0, p0, hp0, y0⟩ := hg.2.1.1 0 (.inr (.inl [67])) rfl
      obtain ⟨o1, e1, x, y1, z, hzk, hx⟩ := hg.2.1.1 1 (.inl (1, .ofNat 0)) rfl
      obtain ⟨a0, a1, r, rfl⟩ := ex2 e1
      cases e0
      cases e1
      subst y0 y1
      have hp0 := List.mem_singleton.mp hp0
      subst hp0
      replace hx : x.toInt = z + 0 := hx
      have hzE : inI ((0 : Int), (69 : Int)) z := hg.1.1.2 1 z _ hzk rfl
      have hz1 := hzE.1
      have hz2 := hzE.2
      dsimp only at hz1 hz2
      obtain ⟨k, rfl, hk0, hk, _⟩ := nI_inI (x := x) (a := 0) (b := 69) (by rw [hx]; exact ⟨by show (0 : Int) ≤ z + 0; omega, by show z + 0 ≤ (69 : Int); omega⟩) (by decide)
      have hkz : (k : Int) = z := by
        rw [nI_toInt (by omega)] at hx
        omega
      have hT : ∀ e, e ∈ ca_X12_undo_0_23.2.2.2.2.1 → e.1 = 68 → e.2.1 < 60 := by decide
      have out : k = 69 → K 64 (some (.ref 67) :: some (.int (nI k)) :: r) [] (shH ru ta rs) I J 0 0 := by
        intro hkk
        exact hK 64 (ca_X12_undo_0_23.2.1.set 1 (69, 69), ca_X12_undo_0_23.2.2.1, ca_X12_undo_0_23.2.2.2.1, ca_X12_undo_0_23.2.2.2.2.1) (by decide +kernel) R _ [] _ I J (ga_setE (S := stA ca_X12_undo_0_23.2) (r := (69, 69)) rfl hzk ⟨by show (69 : Int) ≤ z; omega, by show z ≤ (69 : Int); omega⟩ hg)
      have fin : ∀ I2, ga CF ck_X12_undo_0.2.2.1 ck_X12_undo_0.2.2.2.1 sh0 I0 R R (stA ca_X12_undo_0_23.2) (some (.ref 67) :: some (.int (nI k)) :: r) [] (shH ru ta rs) I2 → k < 69 → K 23 (some (.ref 67) :: some (.int (nI k + 1)) :: r) [] (shH ru ta rs) I2 J 0 0 := by
        intro I2 h2 hkk
        have h3 := ga_setE (S := stA ca_X12_undo_0_23.2) (r := (0, 68)) rfl hzk ⟨by show (0 : Int) ≤ z; omega, by show z ≤ (68 : Int); omega⟩ h2
        refine hK 23 (ca_X12_undo_0_23.2.1.set 1 (0, 68), [.inr (.inl [67]), .inl (1, .ofNat 1)], [], ca_X12_undo_0_23.2.2.2.2.1) (by decide +kernel) R _ [] _ I2 J ⟨h3.1, ⟨fun i a ha => ?_, trivial⟩, h3.2.2⟩
        match i, ha with
        | 0, ha =>
          cases ha
          exact ⟨_, rfl, 67, List.mem_singleton.mpr rfl, rfl⟩
        | 1, ha =>
          cases ha
          exact ⟨_, rfl, _, rfl, num_add1 hzk hx (by omega)⟩
        | _ + 2, ha => cases ha
      obtain ⟨s, hs2, hsx⟩ : numO R (2, .ofNat 0) (I 68 5) := hg.2.2.1.1 68 5 _ rfl
      replace hsx : (I 68 5).toInt = s := hsx.trans (Int.add_zero s)
      have hsE : inI ((0 : Int), (29 : Int)) s := hg.1.1.2 2 s _ hs2 rfl
      obtain ⟨S, eS, _, hS, _⟩ := nI_inI (x := I 68 5) (a := 0) (b := 29) (by rw [hsx]; exact ⟨by show (0 : Int) ≤ s; exact hsE.1, by show s ≤ (29 : Int); exact hsE.2⟩) (by decide)
      refine And.intro (fun h => out ?_) (fun h => ?_)
      · rcases Nat.lt_or_ge k 69 with y | y
        · exact absurd h (nI_ge (a := k) (b := 69) y (by omega))
        · omega
      have hk2 : k < 69 := by
        rcases Nat.lt_or_ge k 69 with y | y
        · exact y
        · exact absurd (nI_le (a := 69) (b := k) y (by omega)) h
      obtain ⟨q1, w1⟩ := ix_col (S := S) (k := k) (by omega) hk2
      obtain ⟨q2, w2⟩ := ix_row hk2
      rw [← eS] at q1 w1
      refine And.intro (vp_in_nI (N := 2200) (n := 5) (by omega) (by omega)) (And.intro w1 (And.intro w2 ?_))
      have y := fin (uI I 68 (60 + k) (I 68 (130 + 69 * S + k))) (ga_put68 hg rfl hT (by omega) (by omega) (cell_col hk2).symm) (by omega)
      rw [← q1, ← q2] at y
      exact y
  · exact absurd hz (by decide)
theorem ct_X12_undo_0 : ctrO QQ CF ck_X12_undo_0 mX12_undo := chk_okS (Q := QQ) (QP := QPl) (C := CF) (c := ck_X12_undo_0) (G := cg_X12_undo_0) (X := xxX12) (M := mX12_undo) (t := tX12_undo) (anns := ca_X12_undo_0) [23] 71 xx12 pl12 rfl kX12_undo qq_ok cx_X12_undo_0 seg_X12_undo_0 cc_X12_undo_0
def ck_X12_put_0 : AK := (1, [.inr (.inl [67]), .inl fr], [67, 70], false, [([fr], .inr (.inr 9), [(67, 3, (.ofNat 4, .ofNat 284))])], [(67, 3, (.ofNat 0, .ofNat 280))])
set_option maxRecDepth 100000 in
set_option maxHeartbeats 1000000 in
theorem ct_X12_put_0 : ctrO QQ CF ck_X12_put_0 mX12_put := by
  intro l d sh I J as Rp ha hce hs hi hq hR
  obtain ⟨v, rfl, _⟩ := ag1i ha
  obtain ⟨ru, ta, rs, hru, hta, rfl⟩ := shX hs
  have h3 : inI (0, 280) (I 67 3).toInt := hce _ List.mem_cons_self
  obtain ⟨s, e3, s1, s2, _⟩ := nI_inI h3 (by decide)
  refine hm_put l d s (by omega) v ru ta rs I J Rp e3 (fun I' f1 f2 f3 => ?_)
  have h3' : (I' 67 3).toInt = s + 4 := by
    rw [f3, nI_toInt (by omega)]
    omega
  refine hR none _ I' J hs (fun _ => rfl) (fun p k _ => ?_) (qq_ok I I' (fun p hp => f1 p ?_ ?_) hq) (fun p hp => f1 p ?_ ?_) ⟨_, List.mem_cons_self, fun i r z h1 h2 => agO_in ha h2 h1, rfl, fun e he => ?_⟩
  · by_cases hp : p = 67
    · subst hp
      by_cases hk : k = 3
      · subst hk
        show inI (0, 300) (I' 67 3).toInt
        rw [h3']
        exact ⟨by dsimp only; omega, by dsimp only; omega⟩
      · rw [f2 k hk]
        exact hi 67 k rfl
    · by_cases hp7 : p = 70
      · subst hp7
        exact noCell_ok (by decide +kernel) _
      · rw [f1 p hp hp7]
        exact hi p k rfl
  · intro h
    subst h
    exact absurd hp (by decide)
  · intro h
    subst h
    exact absurd hp (by decide)
  · intro h
    subst h
    exact absurd hp (by decide)
  · intro h
    subst h
    exact absurd hp (by decide)
  · rw [List.mem_singleton.mp he]
    show inI (4, 284) (I' 67 3).toInt
    rw [h3']
    exact ⟨by dsimp only; omega, by dsimp only; omega⟩
def ck_X12_put_1 : AK := (1, [.inr (.inl [67]), .inl fr], [67, 70], false, [([fr], .inr (.inr 9), [(67, 3, (.ofNat 8, .ofNat 288))])], [(67, 3, (.ofNat 4, .ofNat 284))])
set_option maxRecDepth 100000 in
set_option maxHeartbeats 1000000 in
theorem ct_X12_put_1 : ctrO QQ CF ck_X12_put_1 mX12_put := by
  intro l d sh I J as Rp ha hce hs hi hq hR
  obtain ⟨v, rfl, _⟩ := ag1i ha
  obtain ⟨ru, ta, rs, hru, hta, rfl⟩ := shX hs
  have h3 : inI (4, 284) (I 67 3).toInt := hce _ List.mem_cons_self
  obtain ⟨s, e3, s1, s2, _⟩ := nI_inI h3 (by decide)
  refine hm_put l d s (by omega) v ru ta rs I J Rp e3 (fun I' f1 f2 f3 => ?_)
  have h3' : (I' 67 3).toInt = s + 4 := by
    rw [f3, nI_toInt (by omega)]
    omega
  refine hR none _ I' J hs (fun _ => rfl) (fun p k _ => ?_) (qq_ok I I' (fun p hp => f1 p ?_ ?_) hq) (fun p hp => f1 p ?_ ?_) ⟨_, List.mem_cons_self, fun i r z h1 h2 => agO_in ha h2 h1, rfl, fun e he => ?_⟩
  · by_cases hp : p = 67
    · subst hp
      by_cases hk : k = 3
      · subst hk
        show inI (0, 300) (I' 67 3).toInt
        rw [h3']
        exact ⟨by dsimp only; omega, by dsimp only; omega⟩
      · rw [f2 k hk]
        exact hi 67 k rfl
    · by_cases hp7 : p = 70
      · subst hp7
        exact noCell_ok (by decide +kernel) _
      · rw [f1 p hp hp7]
        exact hi p k rfl
  · intro h
    subst h
    exact absurd hp (by decide)
  · intro h
    subst h
    exact absurd hp (by decide)
  · intro h
    subst h
    exact absurd hp (by decide)
  · intro h
    subst h
    exact absurd hp (by decide)
  · rw [List.mem_singleton.mp he]
    show inI (8, 288) (I' 67 3).toInt
    rw [h3']
    exact ⟨by dsimp only; omega, by dsimp only; omega⟩
def ck_X12_put_2 : AK := (1, [.inr (.inl [67]), .inl fr], [67, 70], false, [([fr], .inr (.inr 9), [(67, 3, (.ofNat 12, .ofNat 292))])], [(67, 3, (.ofNat 8, .ofNat 288))])
set_option maxRecDepth 100000 in
set_option maxHeartbeats 1000000 in
theorem ct_X12_put_2 : ctrO QQ CF ck_X12_put_2 mX12_put := by
  intro l d sh I J as Rp ha hce hs hi hq hR
  obtain ⟨v, rfl, _⟩ := ag1i ha
  obtain ⟨ru, ta, rs, hru, hta, rfl⟩ := shX hs
  have h3 : inI (8, 288) (I 67 3).toInt := hce _ List.mem_cons_self
  obtain ⟨s, e3, s1, s2, _⟩ := nI_inI h3 (by decide)
  refine hm_put l d s (by omega) v ru ta rs I J Rp e3 (fun I' f1 f2 f3 => ?_)
  have h3' : (I' 67 3).toInt = s + 4 := by
    rw [f3, nI_toInt (by omega)]
    omega
  refine hR none _ I' J hs (fun _ => rfl) (fun p k _ => ?_) (qq_ok I I' (fun p hp => f1 p ?_ ?_) hq) (fun p hp => f1 p ?_ ?_) ⟨_, List.mem_cons_self, fun i r z h1 h2 => agO_in ha h2 h1, rfl, fun e he => ?_⟩
  · by_cases hp : p = 67
    · subst hp
      by_cases hk : k = 3
      · subst hk
        show inI (0, 300) (I' 67 3).toInt
        rw [h3']
        exact ⟨by dsimp only; omega, by dsimp only; omega⟩
      · rw [f2 k hk]
        exact hi 67 k rfl
    · by_cases hp7 : p = 70
      · subst hp7
        exact noCell_ok (by decide +kernel) _
      · rw [f1 p hp hp7]
        exact hi p k rfl
  · intro h
    subst h
    exact absurd hp (by decide)
  · intro h
    subst h
    exact absurd hp (by decide)
  · intro h
    subst h
    exact absurd hp (by decide)
  · intro h
    subst h
    exact absurd hp (by decide)
  · rw [List.mem_singleton.mp he]
    show inI (12, 292) (I' 67 3).toInt
    rw [h3']
    exact ⟨by dsimp only; omega, by dsimp only; omega⟩
def ck_X12_put_3 : AK := (1, [.inr (.inl [67]), .inl fr], [67, 70], false, [([fr], .inr (.inr 9), [(67, 3, (.ofNat 16, .ofNat 296))])], [(67, 3, (.ofNat 12, .ofNat 292))])
set_option maxRecDepth 100000 in
set_option maxHeartbeats 1000000 in
theorem ct_X12_put_3 : ctrO QQ CF ck_X12_put_3 mX12_put := by
  intro l d sh I J as Rp ha hce hs hi hq hR
  obtain ⟨v, rfl, _⟩ := ag1i ha
  obtain ⟨ru, ta, rs, hru, hta, rfl⟩ := shX hs
  have h3 : inI (12, 292) (I 67 3).toInt := hce _ List.mem_cons_self
  obtain ⟨s, e3, s1, s2, _⟩ := nI_inI h3 (by decide)
  refine hm_put l d s (by omega) v ru ta rs I J Rp e3 (fun I' f1 f2 f3 => ?_)
  have h3' : (I' 67 3).toInt = s + 4 := by
    rw [f3, nI_toInt (by omega)]
    omega
  refine hR none _ I' J hs (fun _ => rfl) (fun p k _ => ?_) (qq_ok I I' (fun p hp => f1 p ?_ ?_) hq) (fun p hp => f1 p ?_ ?_) ⟨_, List.mem_cons_self, fun i r z h1 h2 => agO_in ha h2 h1, rfl, fun e he => ?_⟩
  · by_cases hp : p = 67
    · subst hp
      by_cases hk : k = 3
      · subst hk
        show inI (0, 300) (I' 67 3).toInt
        rw [h3']
        exact ⟨by dsimp only; omega, by dsimp only; omega⟩
      · rw [f2 k hk]
        exact hi 67 k rfl
    · by_cases hp7 : p = 70
      · subst hp7
        exact noCell_ok (by decide +kernel) _
      · rw [f1 p hp hp7]
        exact hi p k rfl
  · intro h
    subst h
    exact absurd hp (by decide)
  · intro h
    subst h
    exact absurd hp (by decide)
  · intro h
    subst h
    exact absurd hp (by decide)
  · intro h
    subst h
    exact absurd hp (by decide)
  · rw [List.mem_singleton.mp he]
    show inI (16, 296) (I' 67 3).toInt
    rw [h3']
    exact ⟨by dsimp only; omega, by dsimp only; omega⟩
def ck_X12_put_4 : AK := (1, [.inr (.inl [67]), .inl fr], [67, 70], false, [([fr], .inr (.inr 9), [(67, 3, (.ofNat 20, .ofNat 300))])], [(67, 3, (.ofNat 16, .ofNat 296))])
set_option maxRecDepth 100000 in
set_option maxHeartbeats 1000000 in
theorem ct_X12_put_4 : ctrO QQ CF ck_X12_put_4 mX12_put := by
  intro l d sh I J as Rp ha hce hs hi hq hR
  obtain ⟨v, rfl, _⟩ := ag1i ha
  obtain ⟨ru, ta, rs, hru, hta, rfl⟩ := shX hs
  have h3 : inI (16, 296) (I 67 3).toInt := hce _ List.mem_cons_self
  obtain ⟨s, e3, s1, s2, _⟩ := nI_inI h3 (by decide)
  refine hm_put l d s (by omega) v ru ta rs I J Rp e3 (fun I' f1 f2 f3 => ?_)
  have h3' : (I' 67 3).toInt = s + 4 := by
    rw [f3, nI_toInt (by omega)]
    omega
  refine hR none _ I' J hs (fun _ => rfl) (fun p k _ => ?_) (qq_ok I I' (fun p hp => f1 p ?_ ?_) hq) (fun p hp => f1 p ?_ ?_) ⟨_, List.mem_cons_self, fun i r z h1 h2 => agO_in ha h2 h1, rfl, fun e he => ?_⟩
  · by_cases hp : p = 67
    · subst hp
      by_cases hk : k = 3
      · subst hk
        show inI (0, 300) (I' 67 3).toInt
        rw [h3']
        exact ⟨by dsimp only; omega, by dsimp only; omega⟩
      · rw [f2 k hk]
        exact hi 67 k rfl
    · by_cases hp7 : p = 70
      · subst hp7
        exact noCell_ok (by decide +kernel) _
      · rw [f1 p hp hp7]
        exact hi p k rfl
  · intro h
    subst h
    exact absurd hp (by decide)
  · intro h
    subst h
    exact absurd hp (by decide)
  · intro h
    subst h
    exact absurd hp (by decide)
  · intro h
    subst h
    exact absurd hp (by decide)
  · rw [List.mem_singleton.mp he]
    show inI (20, 300) (I' 67 3).toInt
    rw [h3']
    exact ⟨by dsimp only; omega, by dsimp only; omega⟩
def ck_X12_feed_0 : AK := (2, [.inr (.inl [67]), .inl fr, .inl fr, .inl fr, .inl fr, .inl fr], [67, 70], false, [([fr, fr, fr, fr, fr], .inl (.negSucc 0, .negSucc 0), []), ([fr, fr, fr, fr, fr], .inl (.ofNat 20, .ofNat 300), [])], [])
def cg_X12_feed_0 : List (Nat × AK) := [(123, ck_X12_put_0), (123, ck_X12_put_1), (123, ck_X12_put_2), (123, ck_X12_put_3), (123, ck_X12_put_4)]
def ca_X12_feed_0 : List (Nat × AA) := []
set_option maxRecDepth 100000 in
theorem cc_X12_feed_0 : aChk QPl CF ck_X12_feed_0 cg_X12_feed_0 xxX12 mX12_feed tX12_feed ca_X12_feed_0 [] 1 = true := by decide +kernel
theorem cx_X12_feed_0 : ctsO QQ CF xxX12 cg_X12_feed_0 := ctsO_cons rfl ct_X12_put_0 (ctsO_cons rfl ct_X12_put_1 (ctsO_cons rfl ct_X12_put_2 (ctsO_cons rfl ct_X12_put_3 (ctsO_cons rfl ct_X12_put_4 (ctsO_nil)))))
theorem ct_X12_feed_0 : ctrO QQ CF ck_X12_feed_0 mX12_feed := chk_ok (Q := QQ) (QP := QPl) (C := CF) (c := ck_X12_feed_0) (G := cg_X12_feed_0) (X := xxX12) (M := mX12_feed) (t := tX12_feed) (anns := ca_X12_feed_0) 1 xx12 pl12 rfl kX12_feed qq_ok cx_X12_feed_0 cc_X12_feed_0
def ck_X12_in_6 : AK := (1, [.inl fr, .inl (.ofNat 0, .ofNat 0), .inl (.ofNat 0, .ofNat 300)], [], false, [([(.ofNat 0, .ofNat 300), (.ofNat 0, .ofNat 0), (.ofNat 0, .ofNat 300)], .inl (.ofNat 1, .ofNat 1), []), ([fr, (.ofNat 0, .ofNat 0), (.ofNat 0, .ofNat 300)], .inl (.ofNat 0, .ofNat 0), [])], [])
def cg_X12_in_6 : List (Nat × AK) := []
def ca_X12_in_6 : List (Nat × AA) := []
set_option maxRecDepth 100000 in
theorem cc_X12_in_6 : aChk QPl CF ck_X12_in_6 cg_X12_in_6 xxX12 mX12_in tX12_in ca_X12_in_6 [] 1 = true := by decide +kernel
theorem cx_X12_in_6 : ctsO QQ CF xxX12 cg_X12_in_6 := ctsO_nil
theorem ct_X12_in_6 : ctrO QQ CF ck_X12_in_6 mX12_in := chk_ok (Q := QQ) (QP := QPl) (C := CF) (c := ck_X12_in_6) (G := cg_X12_in_6) (X := xxX12) (M := mX12_in) (t := tX12_in) (anns := ca_X12_in_6) 1 xx12 pl12 rfl kX12_in qq_ok cx_X12_in_6 cc_X12_in_6
def ck_X12_end_0 : AK := (2, [.inr (.inl [67]), .inl fr], [67], false, [([(.ofNat 0, .ofNat 300)], .inl (.ofNat 0, .ofNat 300), []), ([fr], .inl (.negSucc 0, .negSucc 0), [])], [])
def cg_X12_end_0 : List (Nat × AK) := [(116, ck_X12_in_6)]
def ca_X12_end_0 : List (Nat × AA) := []
set_option maxRecDepth 100000 in
theorem cc_X12_end_0 : aChk QPl CF ck_X12_end_0 cg_X12_end_0 xxX12 mX12_end tX12_end ca_X12_end_0 [] 1 = true := by decide +kernel
theorem cx_X12_end_0 : ctsO QQ CF xxX12 cg_X12_end_0 := ctsO_cons rfl ct_X12_in_6 (ctsO_nil)
theorem ct_X12_end_0 : ctrO QQ CF ck_X12_end_0 mX12_end := chk_ok (Q := QQ) (QP := QPl) (C := CF) (c := ck_X12_end_0) (G := cg_X12_end_0) (X := xxX12) (M := mX12_end) (t := tX12_end) (anns := ca_X12_end_0) 1 xx12 pl12 rfl kX12_end qq_ok cx_X12_end_0 cc_X12_end_0
def ck_X12_text_0 : AK := (20, [.inr (.inl [67])], [67, 68, 69, 70, 71, 72, 73, 74, 75, 76, 77, 78, 79, 80, 81, 82, 83, 84, 85, 86, 87, 88, 89, 90, 91, 92, 93, 94, 95, 96, 97, 98], false, [([], .inl (.negSucc 0, .ofNat 3), [])], [])
def ck_X12_fault_0 : AK := (1, [.inr (.inl [67]), .inl fr], [], false, [([(.ofNat 0, .ofNat 1)], .inl fr, []), ([fr], .inl (.negSucc 0, .negSucc 0), [])], [])
def cg_X12_fault_0 : List (Nat × AK) := []
def ca_X12_fault_0 : List (Nat × AA) := []
set_option maxRecDepth 100000 in
theorem cc_X12_fault_0 : aChk QPl CF ck_X12_fault_0 cg_X12_fault_0 xxX12 mX12_fault tX12_fault ca_X12_fault_0 [] 1 = true := by decide +kernel
theorem cx_X12_fault_0 : ctsO QQ CF xxX12 cg_X12_fault_0 := ctsO_nil
theorem ct_X12_fault_0 : ctrO QQ CF ck_X12_fault_0 mX12_fault := chk_ok (Q := QQ) (QP := QPl) (C := CF) (c := ck_X12_fault_0) (G := cg_X12_fault_0) (X := xxX12) (M := mX12_fault) (t := tX12_fault) (anns := ca_X12_fault_0) 1 xx12 pl12 rfl kX12_fault qq_ok cx_X12_fault_0 cc_X12_fault_0
def ck_X12_by_0 : AK := (2, [.inr (.inl [67]), .inl fr], [68], false, [([(.negSucc 0, .ofNat 3)], .inl (.ofNat 1, .ofNat 1), []), ([fr], .inl (.ofNat 0, .ofNat 0), [])], [])
def cg_X12_by_0 : List (Nat × AK) := [(116, ck_X12_in_0)]
def ca_X12_by_0 : List (Nat × AA) := []
set_option maxRecDepth 100000 in
theorem cc_X12_by_0 : aChk QPl CF ck_X12_by_0 cg_X12_by_0 xxX12 mX12_by tX12_by ca_X12_by_0 [] 1 = true := by decide +kernel
theorem cx_X12_by_0 : ctsO QQ CF xxX12 cg_X12_by_0 := ctsO_cons rfl ct_X12_in_0 (ctsO_nil)
theorem ct_X12_by_0 : ctrO QQ CF ck_X12_by_0 mX12_by := chk_ok (Q := QQ) (QP := QPl) (C := CF) (c := ck_X12_by_0) (G := cg_X12_by_0) (X := xxX12) (M := mX12_by) (t := tX12_by) (anns := ca_X12_by_0) 1 xx12 pl12 rfl kX12_by qq_ok cx_X12_by_0 cc_X12_by_0
def ck_X12_in_7 : AK := (1, [.inl fr, .inl (.ofNat 1, .ofNat 1), .inl (.ofNat 60, .ofNat 60)], [], false, [([(.ofNat 1, .ofNat 60), (.ofNat 1, .ofNat 1), (.ofNat 60, .ofNat 60)], .inl (.ofNat 1, .ofNat 1), []), ([fr, (.ofNat 1, .ofNat 1), (.ofNat 60, .ofNat 60)], .inl (.ofNat 0, .ofNat 0), [])], [])
def cg_X12_in_7 : List (Nat × AK) := []
def ca_X12_in_7 : List (Nat × AA) := []
set_option maxRecDepth 100000 in
theorem cc_X12_in_7 : aChk QPl CF ck_X12_in_7 cg_X12_in_7 xxX12 mX12_in tX12_in ca_X12_in_7 [] 1 = true := by decide +kernel
theorem cx_X12_in_7 : ctsO QQ CF xxX12 cg_X12_in_7 := ctsO_nil
theorem ct_X12_in_7 : ctrO QQ CF ck_X12_in_7 mX12_in := chk_ok (Q := QQ) (QP := QPl) (C := CF) (c := ck_X12_in_7) (G := cg_X12_in_7) (X := xxX12) (M := mX12_in) (t := tX12_in) (anns := ca_X12_in_7) 1 xx12 pl12 rfl kX12_in qq_ok cx_X12_in_7 cc_X12_in_7
def ck_X12_hour_0 : AK := (12, [.inr (.inl [67]), .inl fr], [68, 91, 93], false, [([fr], .inl (.negSucc 0, .negSucc 0), []), ([(.ofNat 1, .ofNat 60)], .inl fr, [])], [])
def cg_X12_hour_0 : List (Nat × AK) := [(116, ck_X12_in_7), (405, ck_X12_keepsStep_0), (408, ck_X12_laysNow_0), (411, ck_X12_hourPasses_0), (414, ck_X12_keepsNow_0)]
def ca_X12_hour_0 : List (Nat × AA) := [(40, [(.ofNat 0, .ofNat 0), (.ofNat 1, .ofNat 60), (.ofNat 0, .ofNat 60)], [.inr (.inl [67]), .inl (1, .ofNat 0), .inl (2, .ofNat 0)], [], [], [(0, 2, 0)], (.ofNat 60, [.ofNat 0, .ofNat 0, .negSucc 0]))]
set_option maxRecDepth 100000 in
theorem cc_X12_hour_0 : aChk QPl CF ck_X12_hour_0 cg_X12_hour_0 xxX12 mX12_hour tX12_hour ca_X12_hour_0 [] 61 = true := by decide +kernel
theorem cx_X12_hour_0 : ctsO QQ CF xxX12 cg_X12_hour_0 := ctsO_cons rfl ct_X12_in_7 (ctsO_cons rfl ct_X12_keepsStep_0 (ctsO_cons rfl ct_X12_laysNow_0 (ctsO_cons rfl ct_X12_hourPasses_0 (ctsO_cons rfl ct_X12_keepsNow_0 (ctsO_nil)))))
theorem ct_X12_hour_0 : ctrO QQ CF ck_X12_hour_0 mX12_hour := chk_ok (Q := QQ) (QP := QPl) (C := CF) (c := ck_X12_hour_0) (G := cg_X12_hour_0) (X := xxX12) (M := mX12_hour) (t := tX12_hour) (anns := ca_X12_hour_0) 61 xx12 pl12 rfl kX12_hour qq_ok cx_X12_hour_0 cc_X12_hour_0
def ck_X12_in_8 : AK := (1, [.inl fr, .inl (.ofNat 0, .ofNat 0), .inl (.negSucc 0, .ofNat 7)], [], false, [([(.ofNat 0, .ofNat 7), (.ofNat 0, .ofNat 0), (.ofNat 0, .ofNat 7)], .inl (.ofNat 1, .ofNat 1), []), ([fr, (.ofNat 0, .ofNat 0), (.negSucc 0, .ofNat 7)], .inl (.ofNat 0, .ofNat 0), [])], [])
def cg_X12_in_8 : List (Nat × AK) := []
def ca_X12_in_8 : List (Nat × AA) := []
set_option maxRecDepth 100000 in
theorem cc_X12_in_8 : aChk QPl CF ck_X12_in_8 cg_X12_in_8 xxX12 mX12_in tX12_in ca_X12_in_8 [] 1 = true := by decide +kernel
theorem cx_X12_in_8 : ctsO QQ CF xxX12 cg_X12_in_8 := ctsO_nil
theorem ct_X12_in_8 : ctrO QQ CF ck_X12_in_8 mX12_in := chk_ok (Q := QQ) (QP := QPl) (C := CF) (c := ck_X12_in_8) (G := cg_X12_in_8) (X := xxX12) (M := mX12_in) (t := tX12_in) (anns := ca_X12_in_8) 1 xx12 pl12 rfl kX12_in qq_ok cx_X12_in_8 cc_X12_in_8
def ck_X12_isThing_0 : AK := (2, [.inr (.inl [67]), .inl fr], [], false, [([(.ofNat 0, .ofNat 7)], .inl (.ofNat 1, .ofNat 1), []), ([fr], .inl (.ofNat 0, .ofNat 0), [])], [])
def cg_X12_isThing_0 : List (Nat × AK) := [(116, ck_X12_in_8)]
def ca_X12_isThing_0 : List (Nat × AA) := []
set_option maxRecDepth 100000 in
theorem cc_X12_isThing_0 : aChk QPl CF ck_X12_isThing_0 cg_X12_isThing_0 xxX12 mX12_isThing tX12_isThing ca_X12_isThing_0 [] 1 = true := by decide +kernel
theorem cx_X12_isThing_0 : ctsO QQ CF xxX12 cg_X12_isThing_0 := ctsO_cons rfl ct_X12_in_8 (ctsO_nil)
theorem ct_X12_isThing_0 : ctrO QQ CF ck_X12_isThing_0 mX12_isThing := chk_ok (Q := QQ) (QP := QPl) (C := CF) (c := ck_X12_isThing_0) (G := cg_X12_isThing_0) (X := xxX12) (M := mX12_isThing) (t := tX12_isThing) (anns := ca_X12_isThing_0) 1 xx12 pl12 rfl kX12_isThing qq_ok cx_X12_isThing_0 cc_X12_isThing_0
def ck_X12_isReaper_0 : AK := (2, [.inr (.inl [67]), .inl fr], [], false, [([(.ofNat 0, .ofNat 3)], .inl (.ofNat 1, .ofNat 1), []), ([fr], .inl (.ofNat 0, .ofNat 0), [])], [])
def cg_X12_isReaper_0 : List (Nat × AK) := [(116, ck_X12_in_0)]
def ca_X12_isReaper_0 : List (Nat × AA) := []
set_option maxRecDepth 100000 in
theorem cc_X12_isReaper_0 : aChk QPl CF ck_X12_isReaper_0 cg_X12_isReaper_0 xxX12 mX12_isReaper tX12_isReaper ca_X12_isReaper_0 [] 1 = true := by decide +kernel
theorem cx_X12_isReaper_0 : ctsO QQ CF xxX12 cg_X12_isReaper_0 := ctsO_cons rfl ct_X12_in_0 (ctsO_nil)
theorem ct_X12_isReaper_0 : ctrO QQ CF ck_X12_isReaper_0 mX12_isReaper := chk_ok (Q := QQ) (QP := QPl) (C := CF) (c := ck_X12_isReaper_0) (G := cg_X12_isReaper_0) (X := xxX12) (M := mX12_isReaper) (t := tX12_isReaper) (anns := ca_X12_isReaper_0) 1 xx12 pl12 rfl kX12_isReaper qq_ok cx_X12_isReaper_0 cc_X12_isReaper_0
def ck_X12_longOf_0 : AK := (9, [.inr (.inl [67]), .inl (.ofNat 0, .ofNat 7)], [91], false, [([(.ofNat 0, .ofNat 7)], .inl (.ofNat 0, .ofNat 999), [])], [])
set_option maxRecDepth 100000 in
set_option maxHeartbeats 1000000 in
theorem ct_X12_longOf_0 : ctrO QQ CF ck_X12_longOf_0 mX12_longOf := by
  intro l d sh I J as Rp ha hce hs hi hq hR
  obtain ⟨x, rfl, hx⟩ := ag1i ha
  obtain ⟨ru, ta, rs, hru, hta, rfl⟩ := shX hs
  obtain ⟨t, rfl, t1, t2, _⟩ := nI_inI (a := 0) (b := 7) hx (by decide)
  have fin : ∀ (r : Int32) (I' : XI) (J' : XJ), ivO CF [] I' → frO [91] I I' → inI (0, 999) r.toInt → Rp (some (.int r)) (shH ru ta rs) I' J' := fun r I' J' b1 b2 b3 => hR _ _ I' J' hs (fun _ => rfl) b1 (qq_ok I I' (fun p hp => b2 p (qp91 p hp)) hq) b2 ⟨_, List.mem_cons_self, one_post ha ⟨r, rfl, b3⟩⟩
  show xm l (d + 8 + 1) 0 0 mX12_longOf [.ref 67, .int (nI t)] (shH ru ta rs) I J Rp
  refine xm_ofK 3 (X := xxX12) (t := tX12_longOf) (stop := [43, 84]) (ini := false) xx12 pl12 rfl kX12_longOf (fun h => by cases h) (Nat.le_of_ble_eq_true rfl) (fun K hK => ?_)
  refine hm_orders l (d + 7) 0 (by decide) ru ta rs I J _ hi hq (fun r hr => ?_)
  refine ct_X12_namesOfThing_0 l (d + 7) _ I J [.ref 67, .int (nI t)] _ ⟨List.mem_singleton.mpr rfl, hx, trivial⟩ (fun e he => by cases he) hs hi hq (fun v sh' I1 J1 a1 a2 a3 a4 a5 ⟨P, hP, hp⟩ => ?_)
  have e2 := a2 rfl
  subst e2
  have e3 := List.mem_singleton.mp hP
  subst e3
  have e4 : v = none := hp.2.1
  subst e4
  have hr1 : foO I1 r := foO_keep (a5 77 (by decide)) (a5 78 (by decide)) hr
  have h84 : ∀ (v : Int64) (J' : XJ) (a : Value), xrun xxX12 (some .int) false false (shH ru ta rs).length 0 0 none l (d + 8) tX12_longOf [43, 84] Rp 2 84 [some (.ref 67), some (.int (nI t)), some (.int r), some a] [.long v] (shH ru ta rs) I1 J' 0 0 := by
    intro v J' a
    refine xrun_step fun K hK => ?_
    exact hm_held l (d + 7) v 0 999 (by decide) _ _ _ _ (fun q q1 q2 => fin q I1 J' a3 a5 ⟨q1, q2⟩)
  have h43 : ∀ (a : Int32), xrun xxX12 (some .int) false false (shH ru ta rs).length 0 0 none l (d + 8) tX12_longOf [43, 84] Rp 3 43 [some (.ref 67), some (.int (nI t)), some (.int r), none] [.int a] (shH ru ta rs) I1 J1 0 0 := by
    intro a
    refine xrun_step fun K hK => ?_
    refine And.intro (fun hn => ?_) (fun _ => ?_)
    · exact hm_says_fo l (d + 5) r hn ru ta rs I1 J1 _ hr1 (fun v J' => hK 84 _ _ _ _ _ _ _ (h84 v J' (.int a)))
    · refine And.intro (vp_k (N := 2200) (nI_add 10 t) (by omega) (by omega)) ?_
      refine And.intro (vp_k (N := 69) (nI_add 0 t) (by omega) (by omega)) ?_
      refine And.intro (show ¬ ((200 : Int32) = 0) by decide) ?_
      exact hK 84 _ _ _ _ _ _ _ (h84 _ J1 (.int a))
  refine And.intro (vp_b (by decide)) ?_
  refine And.intro (fun _ => ?_) (fun _ => ?_)
  · refine And.intro (vp_b (by decide)) ?_
    exact hK 43 _ _ _ _ _ _ _ (h43 _)
  · refine And.intro (vp_b (by decide)) ?_
    exact hK 43 _ _ _ _ _ _ _ (h43 _)
def ck_X12_freeBale_0 : AK := (1, [.inr (.inl [67])], [], false, [([], .inl (.ofNat 0, .ofNat 11), []), ([], .inl (.negSucc 0, .negSucc 0), [])], [])
def cg_X12_freeBale_0 : List (Nat × AK) := []
def ca_X12_freeBale_0 : List (Nat × AA) := [(2, [(.ofNat 0, .ofNat 0), (.ofNat 0, .ofNat 12)], [.inr (.inl [67]), .inl (1, .ofNat 0)], [], [], [(0, 1, 0)], (.ofNat 12, [.ofNat 0, .negSucc 0]))]
set_option maxRecDepth 100000 in
theorem cc_X12_freeBale_0 : aChk QPl CF ck_X12_freeBale_0 cg_X12_freeBale_0 xxX12 mX12_freeBale tX12_freeBale ca_X12_freeBale_0 [] 13 = true := by decide +kernel
theorem cx_X12_freeBale_0 : ctsO QQ CF xxX12 cg_X12_freeBale_0 := ctsO_nil
theorem ct_X12_freeBale_0 : ctrO QQ CF ck_X12_freeBale_0 mX12_freeBale := chk_ok (Q := QQ) (QP := QPl) (C := CF) (c := ck_X12_freeBale_0) (G := cg_X12_freeBale_0) (X := xxX12) (M := mX12_freeBale) (t := tX12_freeBale) (anns := ca_X12_freeBale_0) 13 xx12 pl12 rfl kX12_freeBale qq_ok cx_X12_freeBale_0 cc_X12_freeBale_0
def ck_X12_least_2 : AK := (1, [.inl (.ofNat 0, .ofNat 999), .inl (.ofNat 0, .ofNat 999)], [], false, [([(.ofNat 0, .ofNat 999), (.ofNat 0, .ofNat 999)], .inl (.ofNat 0, .ofNat 999), [])], [])
def cg_X12_least_2 : List (Nat × AK) := []
def ca_X12_least_2 : List (Nat × AA) := []
set_option maxRecDepth 100000 in
theorem cc_X12_least_2 : aChk QPl CF ck_X12_least_2 cg_X12_least_2 xxX12 mX12_least tX12_least ca_X12_least_2 [] 1 = true := by decide +kernel
theorem cx_X12_least_2 : ctsO QQ CF xxX12 cg_X12_least_2 := ctsO_nil
theorem ct_X12_least_2 : ctrO QQ CF ck_X12_least_2 mX12_least := chk_ok (Q := QQ) (QP := QPl) (C := CF) (c := ck_X12_least_2) (G := cg_X12_least_2) (X := xxX12) (M := mX12_least) (t := tX12_least) (anns := ca_X12_least_2) 1 xx12 pl12 rfl kX12_least qq_ok cx_X12_least_2 cc_X12_least_2
def ck_X12_mayCut_0 : AK := (9, [.inr (.inl [67]), .inl (.ofNat 0, .ofNat 7), .inl fr], [91], false, [([(.ofNat 0, .ofNat 7), fr], .inl (.ofNat 0, .ofNat 1), [])], [])
set_option maxRecDepth 100000 in
set_option maxHeartbeats 1000000 in
theorem ct_X12_mayCut_0 : ctrO QQ CF ck_X12_mayCut_0 mX12_mayCut := by
  intro l d sh I J as Rp ha hce hs hi hq hR
  obtain ⟨x, u, rfl, hx, _⟩ := ag1ii ha
  obtain ⟨ru, ta, rs, hru, hta, rfl⟩ := shX hs
  obtain ⟨t, rfl, t1, t2, _⟩ := nI_inI (a := 0) (b := 7) hx (by decide)
  have fin : ∀ (r : Int32) (I' : XI) (J' : XJ), ivO CF [] I' → frO [91] I I' → inI (0, 1) r.toInt → Rp (some (.int r)) (shH ru ta rs) I' J' := fun r I' J' b1 b2 b3 => hR _ _ I' J' hs (fun _ => rfl) b1 (qq_ok I I' (fun p hp => b2 p (qp91 p hp)) hq) b2 ⟨_, List.mem_cons_self, one_post ha ⟨r, rfl, b3⟩⟩
  show xm l (d + 8 + 1) 0 0 mX12_mayCut [.ref 67, .int (nI t), .int u] (shH ru ta rs) I J Rp
  refine xm_ofK 3 (X := xxX12) (t := tX12_mayCut) (stop := []) (ini := false) xx12 pl12 rfl kX12_mayCut (fun h => by cases h) (Nat.le_of_ble_eq_true rfl) (fun K hK => ?_)
  refine hm_orders l (d + 7) 4 (by decide) ru ta rs I J _ hi hq (fun r hr => ?_)
  refine ct_X12_namesOfThing_0 l (d + 7) _ I J [.ref 67, .int (nI t)] _ ⟨List.mem_singleton.mpr rfl, hx, trivial⟩ (fun e he => by cases he) hs hi hq (fun v sh' I1 J1 a1 a2 a3 a4 a5 ⟨P, hP, hp⟩ => ?_)
  have e2 := a2 rfl
  subst e2
  have e3 := List.mem_singleton.mp hP
  subst e3
  have e4 : v = none := hp.2.1
  subst e4
  have hr1 : foO I1 r := foO_keep (a5 77 (by decide)) (a5 78 (by decide)) hr
  refine And.intro (vp_k (N := 2200) (nI_add 26 t) (by omega) (by omega)) ?_
  refine And.intro (vp_b (by decide)) ?_
  refine And.intro (vp_b (by decide)) ?_
  have b3 : ∀ v w : Int32, ivO CF [] (uI (uI I1 91 9 v) 91 10 w) := by
    intro v w p k _
    by_cases hp : p = 91
    · subst hp
      exact noCell_ok (by decide +kernel) _
    · rw [uI_ne hp, uI_ne hp]
      exact a3 p k rfl
  have b5 : ∀ v w : Int32, frO [91] I (uI (uI I1 91 9 v) 91 10 w) := by
    intro v w p hp
    have hne : p ≠ 91 := fun z => by subst z; exact absurd hp (by decide)
    rw [uI_ne hne, uI_ne hne]
    exact a5 p hp
  refine And.intro (fun _ => ?_) (fun hn => ?_)
  · exact And.intro (Or.inr rfl) (fin 1 _ J1 (b3 _ _) (b5 _ _) ⟨by decide, by decide⟩)
  · refine hm_says_fo l (d + 5) r hn ru ta rs _ J1 _ (foO_keep (uI_ne (by decide)) (uI_ne (by decide)) (foO_keep (uI_ne (by decide)) (uI_ne (by decide)) hr1)) (fun v J' => ?_)
    refine And.intro (fun _ => ?_) (fun _ => ?_)
    · exact And.intro (Or.inl rfl) (fin 0 _ J' (b3 _ _) (b5 _ _) ⟨by decide, by decide⟩)
    · exact And.intro (Or.inr rfl) (fin 1 _ J' (b3 _ _) (b5 _ _) ⟨by decide, by decide⟩)
def ck_X12_feetIn_0 : AK := (1, [.inr (.inl [67]), .inl fr], [], false, [([fr], .inl fr, [])], [])
def cg_X12_feetIn_0 : List (Nat × AK) := []
def ca_X12_feetIn_0 : List (Nat × AA) := [(4, [(.ofNat 0, .ofNat 0), fr, fr, (.ofNat 0, .ofNat 12)], [.inr (.inl [67]), .inl (1, .ofNat 0), .inl (2, .ofNat 0), .inl (3, .ofNat 0)], [], [], [(0, 2, 0), (0, 3, 0)], (.ofNat 12, [.ofNat 0, .ofNat 0, .ofNat 0, .negSucc 0]))]
set_option maxRecDepth 100000 in
theorem cc_X12_feetIn_0 : aChk QPl CF ck_X12_feetIn_0 cg_X12_feetIn_0 xxX12 mX12_feetIn tX12_feetIn ca_X12_feetIn_0 [] 13 = true := by decide +kernel
theorem cx_X12_feetIn_0 : ctsO QQ CF xxX12 cg_X12_feetIn_0 := ctsO_nil
theorem ct_X12_feetIn_0 : ctrO QQ CF ck_X12_feetIn_0 mX12_feetIn := chk_ok (Q := QQ) (QP := QPl) (C := CF) (c := ck_X12_feetIn_0) (G := cg_X12_feetIn_0) (X := xxX12) (M := mX12_feetIn) (t := tX12_feetIn) (anns := ca_X12_feetIn_0) 13 xx12 pl12 rfl kX12_feetIn qq_ok cx_X12_feetIn_0 cc_X12_feetIn_0
def ck_X12_isRoom_0 : AK := (2, [.inr (.inl [67]), .inl (.ofNat 0, .ofNat 3), .inl (.ofNat 0, .ofNat 999)], [], false, [([(.ofNat 0, .ofNat 3), (.ofNat 0, .ofNat 999)], .inl (.ofNat 1, .ofNat 1), []), ([(.ofNat 0, .ofNat 3), (.ofNat 0, .ofNat 999)], .inl (.ofNat 0, .ofNat 0), [])], [])
def cg_X12_isRoom_0 : List (Nat × AK) := [(369, ck_X12_feetIn_0)]
def ca_X12_isRoom_0 : List (Nat × AA) := []
set_option maxRecDepth 100000 in
theorem cc_X12_isRoom_0 : aChk QPl CF ck_X12_isRoom_0 cg_X12_isRoom_0 xxX12 mX12_isRoom tX12_isRoom ca_X12_isRoom_0 [] 1 = true := by decide +kernel
theorem cx_X12_isRoom_0 : ctsO QQ CF xxX12 cg_X12_isRoom_0 := ctsO_cons rfl ct_X12_feetIn_0 (ctsO_nil)
theorem ct_X12_isRoom_0 : ctrO QQ CF ck_X12_isRoom_0 mX12_isRoom := chk_ok (Q := QQ) (QP := QPl) (C := CF) (c := ck_X12_isRoom_0) (G := cg_X12_isRoom_0) (X := xxX12) (M := mX12_isRoom) (t := tX12_isRoom) (anns := ca_X12_isRoom_0) 1 xx12 pl12 rfl kX12_isRoom qq_ok cx_X12_isRoom_0 cc_X12_isRoom_0
def ck_X12_bales_0 : AK := (1, [.inr (.inl [67]), .inl (.ofNat 0, .ofNat 11), .inl fr, .inl (.ofNat 0, .ofNat 999), .inl fr], [93], false, [([(.ofNat 0, .ofNat 11), fr, (.ofNat 0, .ofNat 999), fr], .inr (.inr 9), [(93, 68, fr), (93, 64, fr)])], [(93, 68, fr), (93, 64, fr)])
def cg_X12_bales_0 : List (Nat × AK) := []
def ca_X12_bales_0 : List (Nat × AA) := []
set_option maxRecDepth 100000 in
theorem cc_X12_bales_0 : aChk QPl CF ck_X12_bales_0 cg_X12_bales_0 xxX12 mX12_bales tX12_bales ca_X12_bales_0 [] 1 = true := by decide +kernel
theorem cx_X12_bales_0 : ctsO QQ CF xxX12 cg_X12_bales_0 := ctsO_nil
theorem ct_X12_bales_0 : ctrO QQ CF ck_X12_bales_0 mX12_bales := chk_ok (Q := QQ) (QP := QPl) (C := CF) (c := ck_X12_bales_0) (G := cg_X12_bales_0) (X := xxX12) (M := mX12_bales) (t := tX12_bales) (anns := ca_X12_bales_0) 1 xx12 pl12 rfl kX12_bales qq_ok cx_X12_bales_0 cc_X12_bales_0
def ck_X12_cutsNow_0 : AK := (10, [.inr (.inl [67]), .inl (.ofNat 0, .ofNat 7), .inl (.ofNat 0, .ofNat 3), .inl (.ofNat 0, .ofNat 3)], [91, 93], false, [([(.ofNat 0, .ofNat 7), (.ofNat 0, .ofNat 3), (.ofNat 0, .ofNat 3)], .inl (.negSucc 0, .negSucc 0), [(93, 68, fr)]), ([(.ofNat 0, .ofNat 7), (.ofNat 0, .ofNat 3), (.ofNat 0, .ofNat 3)], .inl (.ofNat 0, .ofNat 11), [(93, 68, fr)])], [(93, 68, fr)])
def cg_X12_cutsNow_0 : List (Nat × AK) := [(372, ck_X12_longOf_0), (375, ck_X12_freeBale_0), (378, ck_X12_least_2), (381, ck_X12_mayCut_0), (384, ck_X12_isRoom_0), (365, ck_X12_bales_0)]
def ca_X12_cutsNow_0_1 : Nat × AA := (1, [(.ofNat 0, .ofNat 0), (.ofNat 0, .ofNat 7), (.ofNat 0, .ofNat 3), (.ofNat 0, .ofNat 3)], [.inr (.inl [67]), .inl (1, .ofNat 0), .inl (2, .ofNat 0), .inl (3, .ofNat 0), .inr (.inr 0), .inr (.inr 0), .inr (.inr 0)], [.inr (.inl [67])], [], [], (.ofNat 0, [.ofNat 0, .ofNat 0, .ofNat 0, .ofNat 0]))
def ca_X12_cutsNow_0 : List (Nat × AA) := [ca_X12_cutsNow_0_1]
set_option maxRecDepth 100000 in
theorem cc_X12_cutsNow_0 : aChk QPl CF ck_X12_cutsNow_0 cg_X12_cutsNow_0 xxX12 mX12_cutsNow tX12_cutsNow ca_X12_cutsNow_0 [1] 1 = true := by decide +kernel
theorem cx_X12_cutsNow_0 : ctsO QQ CF xxX12 cg_X12_cutsNow_0 := ctsO_cons rfl ct_X12_longOf_0 (ctsO_cons rfl ct_X12_freeBale_0 (ctsO_cons rfl ct_X12_least_2 (ctsO_cons rfl ct_X12_mayCut_0 (ctsO_cons rfl ct_X12_isRoom_0 (ctsO_cons rfl ct_X12_bales_0 (ctsO_nil))))))
set_option maxRecDepth 100000 in
theorem ce_X12_cutsNow_0_1 : ((List.range 4).all fun k => aN CF ck_X12_cutsNow_0.2.2.1 ck_X12_cutsNow_0.2.2.2.1 cg_X12_cutsNow_0 (ck_X12_cutsNow_0.1 - 1) ck_X12_cutsNow_0.2.2.2.2.1 xxX12 mX12_cutsNow.2.2.2 tX12_cutsNow (ca_X12_cutsNow_0.map fun q => q.1) (kkA CF ((aInts ck_X12_cutsNow_0.2.1).length + 1) ca_X12_cutsNow_0 (some ca_X12_cutsNow_0_1.2.2.2.2.2.2)) 1 (enS ca_X12_cutsNow_0_1.2 2 ((Int.ofNat 0 : Int) + (k : Int)))) = true := by decide +kernel
theorem seg_X12_cutsNow_0 : ∀ q, q ∈ ca_X12_cutsNow_0 → nmem q.1 [1] = true → ∀ (l : Launch) (d : Nat) (sh : List XO) (I : XI) (as : List Value) (Rp : XR), agO ck_X12_cutsNow_0.2.1 as → (∀ I2, frO ck_X12_cutsNow_0.2.2.1 I I2 → QQ I2) → outO QQ CF ck_X12_cutsNow_0.2.2.1 ck_X12_cutsNow_0.2.2.2.1 sh I ck_X12_cutsNow_0.2.2.2.2.1 as Rp → segO CF ck_X12_cutsNow_0.2.2.1 ck_X12_cutsNow_0.2.2.2.1 sh I xxX12 mX12_cutsNow.2.2.2 (!(Nat.beq 0 0)) sh.length 0 0 l (d + (ck_X12_cutsNow_0.1 - 1)) tX12_cutsNow (ca_X12_cutsNow_0.map fun q => q.1) Rp as ca_X12_cutsNow_0 (aInts ck_X12_cutsNow_0.2.1).length q := by
  intro q hq hz l d sh0 I0 as Rp ha hQ hO
  simp only [ca_X12_cutsNow_0, List.mem_cons, List.not_mem_nil, or_false] at hq
  rcases hq with rfl
  · exact seg_enum hQ cx_X12_cutsNow_0 hO 2 3 (Int.ofNat 0 : Int) rfl (fun k hk => List.all_eq_true.mp ce_X12_cutsNow_0_1 k (List.mem_range.mpr (by omega)))
theorem ct_X12_cutsNow_0 : ctrO QQ CF ck_X12_cutsNow_0 mX12_cutsNow := chk_okS (Q := QQ) (QP := QPl) (C := CF) (c := ck_X12_cutsNow_0) (G := cg_X12_cutsNow_0) (X := xxX12) (M := mX12_cutsNow) (t := tX12_cutsNow) (anns := ca_X12_cutsNow_0) [1] 1 xx12 pl12 rfl kX12_cutsNow qq_ok cx_X12_cutsNow_0 seg_X12_cutsNow_0 cc_X12_cutsNow_0
def ck_X12_cut_0 : AK := (11, [.inr (.inl [67]), .inl fr, .inl fr, .inl fr], [68, 91, 93], false, [([fr, fr, fr], .inl (.negSucc 0, .negSucc 0), []), ([(.ofNat 0, .ofNat 7), (.ofNat 0, .ofNat 3), (.ofNat 0, .ofNat 3)], .inl (.ofNat 0, .ofNat 11), [])], [])
def cg_X12_cut_0 : List (Nat × AK) := [(421, ck_X12_isThing_0), (424, ck_X12_isReaper_0), (427, ck_X12_isBarn_0), (408, ck_X12_laysNow_0), (430, ck_X12_cutsNow_0), (405, ck_X12_keepsStep_0), (414, ck_X12_keepsNow_0)]
def ca_X12_cut_0 : List (Nat × AA) := []
set_option maxRecDepth 100000 in
theorem cc_X12_cut_0 : aChk QPl CF ck_X12_cut_0 cg_X12_cut_0 xxX12 mX12_cut tX12_cut ca_X12_cut_0 [] 1 = true := by decide +kernel
theorem cx_X12_cut_0 : ctsO QQ CF xxX12 cg_X12_cut_0 := ctsO_cons rfl ct_X12_isThing_0 (ctsO_cons rfl ct_X12_isReaper_0 (ctsO_cons rfl ct_X12_isBarn_0 (ctsO_cons rfl ct_X12_laysNow_0 (ctsO_cons rfl ct_X12_cutsNow_0 (ctsO_cons rfl ct_X12_keepsStep_0 (ctsO_cons rfl ct_X12_keepsNow_0 (ctsO_nil)))))))
theorem ct_X12_cut_0 : ctrO QQ CF ck_X12_cut_0 mX12_cut := chk_ok (Q := QQ) (QP := QPl) (C := CF) (c := ck_X12_cut_0) (G := cg_X12_cut_0) (X := xxX12) (M := mX12_cut) (t := tX12_cut) (anns := ca_X12_cut_0) 1 xx12 pl12 rfl kX12_cut qq_ok cx_X12_cut_0 cc_X12_cut_0
def ck_X12_last_0 : AK := (3, [.inr (.inl [67]), .inl fr, .inl fr], [68, 93], false, [([fr, fr], .inl (.negSucc 0, .negSucc 0), []), ([(.ofNat 0, .ofNat 3), (.ofNat 0, .ofNat 3)], .inl (.ofNat 0, .ofNat 11), [])], [])
def cg_X12_last_0 : List (Nat × AK) := [(424, ck_X12_isReaper_0), (427, ck_X12_isBarn_0), (408, ck_X12_laysNow_0), (375, ck_X12_freeBale_0), (384, ck_X12_isRoom_0), (405, ck_X12_keepsStep_0), (365, ck_X12_bales_0), (414, ck_X12_keepsNow_0)]
def ca_X12_last_0_18 : Nat × AA := (18, [(.ofNat 0, .ofNat 0), (.ofNat 0, .ofNat 3), (.ofNat 0, .ofNat 3)], [.inr (.inl [67]), .inl (1, .ofNat 0), .inl (2, .ofNat 0), .inr (.inr 0)], [], [], [], (.ofNat 0, [.ofNat 0, .ofNat 0, .ofNat 0]))
def ca_X12_last_0 : List (Nat × AA) := [ca_X12_last_0_18]
set_option maxRecDepth 100000 in
theorem cc_X12_last_0 : aChk QPl CF ck_X12_last_0 cg_X12_last_0 xxX12 mX12_last tX12_last ca_X12_last_0 [18] 1 = true := by decide +kernel
theorem cx_X12_last_0 : ctsO QQ CF xxX12 cg_X12_last_0 := ctsO_cons rfl ct_X12_isReaper_0 (ctsO_cons rfl ct_X12_isBarn_0 (ctsO_cons rfl ct_X12_laysNow_0 (ctsO_cons rfl ct_X12_freeBale_0 (ctsO_cons rfl ct_X12_isRoom_0 (ctsO_cons rfl ct_X12_keepsStep_0 (ctsO_cons rfl ct_X12_bales_0 (ctsO_cons rfl ct_X12_keepsNow_0 (ctsO_nil))))))))
set_option maxRecDepth 100000 in
theorem ce_X12_last_0_18 : ((List.range 4).all fun k => aN CF ck_X12_last_0.2.2.1 ck_X12_last_0.2.2.2.1 cg_X12_last_0 (ck_X12_last_0.1 - 1) ck_X12_last_0.2.2.2.2.1 xxX12 mX12_last.2.2.2 tX12_last (ca_X12_last_0.map fun q => q.1) (kkA CF ((aInts ck_X12_last_0.2.1).length + 1) ca_X12_last_0 (some ca_X12_last_0_18.2.2.2.2.2.2)) 18 (enS ca_X12_last_0_18.2 1 ((Int.ofNat 0 : Int) + (k : Int)))) = true := by decide +kernel
theorem seg_X12_last_0 : ∀ q, q ∈ ca_X12_last_0 → nmem q.1 [18] = true → ∀ (l : Launch) (d : Nat) (sh : List XO) (I : XI) (as : List Value) (Rp : XR), agO ck_X12_last_0.2.1 as → (∀ I2, frO ck_X12_last_0.2.2.1 I I2 → QQ I2) → outO QQ CF ck_X12_last_0.2.2.1 ck_X12_last_0.2.2.2.1 sh I ck_X12_last_0.2.2.2.2.1 as Rp → segO CF ck_X12_last_0.2.2.1 ck_X12_last_0.2.2.2.1 sh I xxX12 mX12_last.2.2.2 (!(Nat.beq 0 0)) sh.length 0 0 l (d + (ck_X12_last_0.1 - 1)) tX12_last (ca_X12_last_0.map fun q => q.1) Rp as ca_X12_last_0 (aInts ck_X12_last_0.2.1).length q := by
  intro q hq hz l d sh0 I0 as Rp ha hQ hO
  simp only [ca_X12_last_0, List.mem_cons, List.not_mem_nil, or_false] at hq
  rcases hq with rfl
  · exact seg_enum hQ cx_X12_last_0 hO 1 3 (Int.ofNat 0 : Int) rfl (fun k hk => List.all_eq_true.mp ce_X12_last_0_18 k (List.mem_range.mpr (by omega)))
theorem ct_X12_last_0 : ctrO QQ CF ck_X12_last_0 mX12_last := chk_okS (Q := QQ) (QP := QPl) (C := CF) (c := ck_X12_last_0) (G := cg_X12_last_0) (X := xxX12) (M := mX12_last) (t := tX12_last) (anns := ca_X12_last_0) [18] 1 xx12 pl12 rfl kX12_last qq_ok cx_X12_last_0 seg_X12_last_0 cc_X12_last_0
def ck_X12_use_0 : AK := (20, [.inr (.inl [67]), .inl fr, .inl fr], [68, 93], false, [([fr, fr], .inl fr, [])], [])
set_option maxRecDepth 100000 in
set_option maxHeartbeats 1000000 in
theorem ct_X12_use_0 : ctrO QQ CF ck_X12_use_0 mX12_use := by
  intro l d sh I J as Rp ha hce hs hi hq hR
  obtain ⟨f, t, rfl, _, _⟩ := ag1ii ha
  obtain ⟨ru, ta, rs, _, _, rfl⟩ := shX hs
  have fin : ∀ (r : Int32) (I' : XI) (J' : XJ), ivO CF [] I' → frO [68, 93] I I' → Rp (some (.int r)) (shH ru ta rs) I' J' := fun r I' J' h1 h3 => hR _ _ I' J' hs (fun _ => rfl) h1 (qp_of (ms := [68, 93]) rfl hq h3) h3 ⟨_, List.mem_cons_self, one_post ha ⟨r, rfl, inI_fr _⟩⟩
  show xm l (d + 19 + 1) 0 0 mX12_use [.ref 67, .int f, .int t] (shH ru ta rs) I J Rp
  refine xm_ofK 0 (X := xxX12) (t := tX12_use) (stop := []) (ini := false) xx12 pl12 rfl kX12_use (fun h => by cases h) (Nat.le_of_ble_eq_true rfl) (fun K hK => ?_)
  by_cases c1 : 1 ≤ f ∧ f ≤ 999
  · refine m_in_t l (d + 18) f 1 999 _ _ _ _ c1.1 c1.2 ?_
    refine And.intro (fun h => absurd h (by decide)) (fun _ => ?_)
    refine ct_X12_isBarn_0 l (d + 17) (shH ru ta rs) I J [.ref 67, .int t] _ ⟨by decide, ⟨inI_fr _, trivial⟩⟩ (fun e he => by cases he) hs hi hq ?_
    intro v sh' I1 J1 g1 g2 g3 gQ g4 g5
    have e1 := g2 rfl
    subst e1
    have e2 : I1 = I := funext fun p => g4 p rfl
    subst e2
    obtain ⟨P, hP, hp⟩ := g5
    have hr : (v = some (.int 1) ∧ inI (0, 3) t.toInt) ∨ v = some (.int 0) := by
      rcases List.mem_cons.mp hP with rfl | hP
      · obtain ⟨x, rfl, hx⟩ : ∃ x, v = some (.int x) ∧ inI (1, 1) x.toInt := hp.2.1
        have hx1 := hx.1
        have hx2 := hx.2
        exact Or.inl ⟨by rw [show x = 1 from Int32.toInt_inj.mp (by rw [show (1 : Int32).toInt = 1 by decide]; exact Int.le_antisymm hx2 hx1)], hp.1 0 _ _ rfl rfl⟩
      · rcases List.mem_cons.mp hP with rfl | hP
        · obtain ⟨x, rfl, hx⟩ : ∃ x, v = some (.int x) ∧ inI (0, 0) x.toInt := hp.2.1
          have hx1 := hx.1
          have hx2 := hx.2
          exact Or.inr (by rw [show x = 0 from Int32.toInt_inj.mp (by rw [show (0 : Int32).toInt = 0 by decide]; exact Int.le_antisymm hx2 hx1)])
        · cases hP
    rcases hr with ⟨rfl, ht⟩ | rfl
    · have ht1 : ¬ t = -1 := fun e => by
        have := ht.1
        rw [e] at this
        exact absurd this (by decide)
      refine And.intro (fun _ => ?_) (fun h => absurd h (by decide))
      refine ct_X12_laysNow_0 l (d + 18) (shH ru ta rs) I1 J1 [.ref 67] _ ⟨by decide, trivial⟩ (fun e he => by cases he) hs hi hq ?_
      intro v2 sh2 I2 J2 a1 a2 a3 aQ a4 a5
      have e1 := a2 rfl
      subst e1
      obtain ⟨P2, hP2, hp2⟩ := a5
      rw [List.mem_singleton.mp hP2] at hp2
      have ev2 : v2 = none := hp2.2.1
      subst ev2
      have f2 : frO [68, 93] I1 I2 := fr_tr (ns := [93]) rfl (fun _ _ => rfl) a4
      refine hm_feetIn l (d + 18) t ht1 ru ta rs I2 J2 _ (lens_of a3) (fun r hr => ?_)
      refine And.intro (fun hge => ?_) (fun _ => fin _ I2 J2 a3 f2)
      refine ct_X12_keepsStep_0 l (d + 18) (shH ru ta rs) I2 J2 [.ref 67] _ ⟨by decide, trivial⟩ (fun e he => ?_) hs a3 aQ ?_
      · rcases List.mem_cons.mp he with rfl | he
        · exact a3 68 0 rfl
        · rcases List.mem_cons.mp he with rfl | he
          · exact a3 68 1 rfl
          · rw [List.mem_singleton.mp he]
            exact a3 68 2 rfl
      intro v3 sh3 I3 J3 b1 b2 b3 bQ b4 b5
      have e1 := b2 rfl
      subst e1
      obtain ⟨P3, hP3, hp3⟩ := b5
      rw [List.mem_singleton.mp hP3] at hp3
      have ev3 : v3 = none := hp3.2.1
      subst ev3
      have f3 : frO [68, 93] I1 I3 := fr_tr (ns := [68]) rfl f2 b4
      refine hm_usesNow l (d + 16) f t ru ta rs I3 J3 _ (lens_of b3) ?_ (fun I4 J4 u1 u2 => ?_)
      · rw [lenF_93 (I := I2) (b4 93 rfl), ← hr]
        exact Int32.le_iff_toInt_le.mp hge
      have h4 := iv_out b3 u1 u2
      have f4 : frO [68, 93] I1 I4 := fr_out rfl f3 u2
      refine ct_X12_keepsNow_0 l (d + 18) (shH ru ta rs) I4 J4 [.ref 67] _ ⟨by decide, trivial⟩ (fun e he => by cases he) hs h4 (qp_of (ms := [68, 93]) rfl hq f4) ?_
      intro v5 sh5 I5 J5 c1 c2 c3 cQ c4 c5
      have e1 := c2 rfl
      subst e1
      obtain ⟨P5, hP5, hp5⟩ := c5
      rw [List.mem_singleton.mp hP5] at hp5
      have ev5 : v5 = none := hp5.2.1
      subst ev5
      refine hm_feetIn l (d + 18) t ht1 ru ta rs I5 J5 _ (lens_of c3) (fun r2 hr2 => ?_)
      exact fin _ I5 J5 c3 (fr_tr (ns := [68]) rfl f4 c4)
    · refine And.intro (fun h => absurd rfl h) (fun _ => ?_)
      exact fin _ I1 J1 hi (fun _ _ => rfl)
  · refine m_in_f l (d + 18) f 1 999 _ _ _ _ c1 ?_
    exact And.intro (fun _ => fin _ I J hi (fun _ _ => rfl)) (fun h => absurd rfl h)
def ck_X12_isRoom_1 : AK := (2, [.inr (.inl [67]), .inl (.ofNat 0, .ofNat 3), .inl fr], [], false, [([(.ofNat 0, .ofNat 3), fr], .inl (.ofNat 1, .ofNat 1), []), ([(.ofNat 0, .ofNat 3), fr], .inl (.ofNat 0, .ofNat 0), [])], [])
def cg_X12_isRoom_1 : List (Nat × AK) := [(369, ck_X12_feetIn_0)]
def ca_X12_isRoom_1 : List (Nat × AA) := []
set_option maxRecDepth 100000 in
theorem cc_X12_isRoom_1 : aChk QPl CF ck_X12_isRoom_1 cg_X12_isRoom_1 xxX12 mX12_isRoom tX12_isRoom ca_X12_isRoom_1 [] 1 = true := by decide +kernel
theorem cx_X12_isRoom_1 : ctsO QQ CF xxX12 cg_X12_isRoom_1 := ctsO_cons rfl ct_X12_feetIn_0 (ctsO_nil)
theorem ct_X12_isRoom_1 : ctrO QQ CF ck_X12_isRoom_1 mX12_isRoom := chk_ok (Q := QQ) (QP := QPl) (C := CF) (c := ck_X12_isRoom_1) (G := cg_X12_isRoom_1) (X := xxX12) (M := mX12_isRoom) (t := tX12_isRoom) (anns := ca_X12_isRoom_1) 1 xx12 pl12 rfl kX12_isRoom qq_ok cx_X12_isRoom_1 cc_X12_isRoom_1
def ck_X12_move_0 : AK := (3, [.inr (.inl [67]), .inl fr, .inl fr], [68, 93], false, [([fr, fr], .inl (.ofNat 0, .ofNat 0), []), ([(.ofNat 0, .ofNat 11), (.ofNat 0, .ofNat 3)], .inl (.ofNat 1, .ofNat 1), [])], [])
def cg_X12_move_0 : List (Nat × AK) := [(436, ck_X12_isBale_0), (427, ck_X12_isBarn_0), (408, ck_X12_laysNow_0), (384, ck_X12_isRoom_1), (405, ck_X12_keepsStep_0)]
def ca_X12_move_0 : List (Nat × AA) := []
set_option maxRecDepth 100000 in
theorem cc_X12_move_0 : aChk QPl CF ck_X12_move_0 cg_X12_move_0 xxX12 mX12_move tX12_move ca_X12_move_0 [] 1 = true := by decide +kernel
theorem cx_X12_move_0 : ctsO QQ CF xxX12 cg_X12_move_0 := ctsO_cons rfl ct_X12_isBale_0 (ctsO_cons rfl ct_X12_isBarn_0 (ctsO_cons rfl ct_X12_laysNow_0 (ctsO_cons rfl ct_X12_isRoom_1 (ctsO_cons rfl ct_X12_keepsStep_0 (ctsO_nil)))))
theorem ct_X12_move_0 : ctrO QQ CF ck_X12_move_0 mX12_move := chk_ok (Q := QQ) (QP := QPl) (C := CF) (c := ck_X12_move_0) (G := cg_X12_move_0) (X := xxX12) (M := mX12_move) (t := tX12_move) (anns := ca_X12_move_0) 1 xx12 pl12 rfl kX12_move qq_ok cx_X12_move_0 cc_X12_move_0
def ck_X12_sellsOf_0 : AK := (9, [.inr (.inl [67]), .inl (.ofNat 0, .ofNat 11)], [91], false, [([(.ofNat 0, .ofNat 11)], .inl (.ofNat 0, .ofNat 9999), [])], [])
set_option maxRecDepth 100000 in
set_option maxHeartbeats 1000000 in
theorem ct_X12_sellsOf_0 : ctrO QQ CF ck_X12_sellsOf_0 mX12_sellsOf := by
  intro l d sh I J as Rp ha hce hs hi hq hR
  obtain ⟨x, rfl, hx⟩ := ag1i ha
  obtain ⟨ru, ta, rs, hru, hta, rfl⟩ := shX hs
  obtain ⟨t, rfl, t1, t2, _⟩ := nI_inI (a := 0) (b := 11) hx (by decide)
  have fin : ∀ (r : Int32) (I' : XI) (J' : XJ), ivO CF [] I' → frO [91] I I' → inI (0, 9999) r.toInt → Rp (some (.int r)) (shH ru ta rs) I' J' := fun r I' J' b1 b2 b3 => hR _ _ I' J' hs (fun _ => rfl) b1 (qq_ok I I' (fun p hp => b2 p (qp91 p hp)) hq) b2 ⟨_, List.mem_cons_self, one_post ha ⟨r, rfl, b3⟩⟩
  show xm l (d + 8 + 1) 0 0 mX12_sellsOf [.ref 67, .int (nI t)] (shH ru ta rs) I J Rp
  refine xm_ofK 2 (X := xxX12) (t := tX12_sellsOf) (stop := [34]) (ini := false) xx12 pl12 rfl kX12_sellsOf (fun h => by cases h) (Nat.le_of_ble_eq_true rfl) (fun K hK => ?_)
  refine hm_orders l (d + 7) 3 (by decide) ru ta rs I J _ hi hq (fun r hr => ?_)
  refine ct_X12_namesOfBale_0 l (d + 6) _ I J [.ref 67, .int (nI t)] _ ⟨List.mem_singleton.mpr rfl, hx, trivial⟩ (fun e he => by cases he) hs hi hq (fun v sh' I1 J1 a1 a2 a3 a4 a5 ⟨P, hP, hp⟩ => ?_)
  have e2 := a2 rfl
  subst e2
  have e3 := List.mem_singleton.mp hP
  subst e3
  have e4 : v = none := hp.2.1
  subst e4
  have hr1 : foO I1 r := foO_keep (a5 77 (by decide)) (a5 78 (by decide)) hr
  have h34 : ∀ (v : Int64) (J' : XJ), xrun xxX12 (some .int) false false (shH ru ta rs).length 0 0 none l (d + 8) tX12_sellsOf [34] Rp 2 34 [some (.ref 67), some (.int (nI t)), some (.int r)] [.long v] (shH ru ta rs) I1 J' 0 0 := by
    intro v J'
    refine xrun_step fun K hK => ?_
    exact hm_held l (d + 7) v 0 9999 (by decide) _ _ _ _ (fun q q1 q2 => fin q I1 J' a3 a5 ⟨q1, q2⟩)
  refine And.intro (fun hn => ?_) (fun _ => ?_)
  · exact hm_says_fo l (d + 5) r hn ru ta rs I1 J1 _ hr1 (fun v J' => hK 34 _ _ _ _ _ _ _ (h34 v J'))
  · refine And.intro (vp_k (N := 69) (nI_add 28 t) (by omega) (by omega)) ?_
    exact hK 34 _ _ _ _ _ _ _ (h34 _ J1)
def ck_X12_sellsNow_0 : AK := (10, [.inr (.inl [67]), .inl (.ofNat 0, .ofNat 11)], [91, 93], false, [([(.ofNat 0, .ofNat 11)], .inl (.ofNat 0, .ofNat 9999), [(93, 68, fr)])], [(93, 68, fr)])
def cg_X12_sellsNow_0 : List (Nat × AK) := [(390, ck_X12_sellsOf_0), (365, ck_X12_bales_0)]
def ca_X12_sellsNow_0 : List (Nat × AA) := []
set_option maxRecDepth 100000 in
theorem cc_X12_sellsNow_0 : aChk QPl CF ck_X12_sellsNow_0 cg_X12_sellsNow_0 xxX12 mX12_sellsNow tX12_sellsNow ca_X12_sellsNow_0 [] 1 = true := by decide +kernel
theorem cx_X12_sellsNow_0 : ctsO QQ CF xxX12 cg_X12_sellsNow_0 := ctsO_cons rfl ct_X12_sellsOf_0 (ctsO_cons rfl ct_X12_bales_0 (ctsO_nil))
theorem ct_X12_sellsNow_0 : ctrO QQ CF ck_X12_sellsNow_0 mX12_sellsNow := chk_ok (Q := QQ) (QP := QPl) (C := CF) (c := ck_X12_sellsNow_0) (G := cg_X12_sellsNow_0) (X := xxX12) (M := mX12_sellsNow) (t := tX12_sellsNow) (anns := ca_X12_sellsNow_0) 1 xx12 pl12 rfl kX12_sellsNow qq_ok cx_X12_sellsNow_0 cc_X12_sellsNow_0
def ck_X12_sell_0 : AK := (11, [.inr (.inl [67]), .inl fr], [68, 91, 93], false, [([(.ofNat 0, .ofNat 11)], .inl (.ofNat 0, .ofNat 9999), []), ([fr], .inl (.negSucc 0, .negSucc 0), [])], [])
def cg_X12_sell_0 : List (Nat × AK) := [(436, ck_X12_isBale_0), (405, ck_X12_keepsStep_0), (408, ck_X12_laysNow_0), (439, ck_X12_sellsNow_0), (414, ck_X12_keepsNow_0)]
def ca_X12_sell_0 : List (Nat × AA) := []
set_option maxRecDepth 100000 in
theorem cc_X12_sell_0 : aChk QPl CF ck_X12_sell_0 cg_X12_sell_0 xxX12 mX12_sell tX12_sell ca_X12_sell_0 [] 1 = true := by decide +kernel
theorem cx_X12_sell_0 : ctsO QQ CF xxX12 cg_X12_sell_0 := ctsO_cons rfl ct_X12_isBale_0 (ctsO_cons rfl ct_X12_keepsStep_0 (ctsO_cons rfl ct_X12_laysNow_0 (ctsO_cons rfl ct_X12_sellsNow_0 (ctsO_cons rfl ct_X12_keepsNow_0 (ctsO_nil)))))
theorem ct_X12_sell_0 : ctrO QQ CF ck_X12_sell_0 mX12_sell := chk_ok (Q := QQ) (QP := QPl) (C := CF) (c := ck_X12_sell_0) (G := cg_X12_sell_0) (X := xxX12) (M := mX12_sell) (t := tX12_sell) (anns := ca_X12_sell_0) 1 xx12 pl12 rfl kX12_sell qq_ok cx_X12_sell_0 cc_X12_sell_0
def ck_X12_in_9 : AK := (1, [.inl fr, .inl (.ofNat 0, .ofNat 0), .inl (.ofNat 9999, .ofNat 9999)], [], false, [([(.ofNat 0, .ofNat 9999), (.ofNat 0, .ofNat 0), (.ofNat 9999, .ofNat 9999)], .inl (.ofNat 1, .ofNat 1), []), ([fr, (.ofNat 0, .ofNat 0), (.ofNat 9999, .ofNat 9999)], .inl (.ofNat 0, .ofNat 0), [])], [])
def cg_X12_in_9 : List (Nat × AK) := []
def ca_X12_in_9 : List (Nat × AA) := []
set_option maxRecDepth 100000 in
theorem cc_X12_in_9 : aChk QPl CF ck_X12_in_9 cg_X12_in_9 xxX12 mX12_in tX12_in ca_X12_in_9 [] 1 = true := by decide +kernel
theorem cx_X12_in_9 : ctsO QQ CF xxX12 cg_X12_in_9 := ctsO_nil
theorem ct_X12_in_9 : ctrO QQ CF ck_X12_in_9 mX12_in := chk_ok (Q := QQ) (QP := QPl) (C := CF) (c := ck_X12_in_9) (G := cg_X12_in_9) (X := xxX12) (M := mX12_in) (t := tX12_in) (anns := ca_X12_in_9) 1 xx12 pl12 rfl kX12_in qq_ok cx_X12_in_9 cc_X12_in_9
def ck_X12_in_10 : AK := (1, [.inl fr, .inl (.ofNat 1, .ofNat 1), .inl (.ofNat 30, .ofNat 30)], [], false, [([(.ofNat 1, .ofNat 30), (.ofNat 1, .ofNat 1), (.ofNat 30, .ofNat 30)], .inl (.ofNat 1, .ofNat 1), []), ([fr, (.ofNat 1, .ofNat 1), (.ofNat 30, .ofNat 30)], .inl (.ofNat 0, .ofNat 0), [])], [])
def cg_X12_in_10 : List (Nat × AK) := []
def ca_X12_in_10 : List (Nat × AA) := []
set_option maxRecDepth 100000 in
theorem cc_X12_in_10 : aChk QPl CF ck_X12_in_10 cg_X12_in_10 xxX12 mX12_in tX12_in ca_X12_in_10 [] 1 = true := by decide +kernel
theorem cx_X12_in_10 : ctsO QQ CF xxX12 cg_X12_in_10 := ctsO_nil
theorem ct_X12_in_10 : ctrO QQ CF ck_X12_in_10 mX12_in := chk_ok (Q := QQ) (QP := QPl) (C := CF) (c := ck_X12_in_10) (G := cg_X12_in_10) (X := xxX12) (M := mX12_in) (t := tX12_in) (anns := ca_X12_in_10) 1 xx12 pl12 rfl kX12_in qq_ok cx_X12_in_10 cc_X12_in_10
def ck_X12_keepsStep_1 : AK := (1, [.inr (.inl [67])], [68], false, [([], .inr (.inr 9), [(68, 0, (.ofNat 1, .ofNat 8)), (68, 1, (.ofNat 1, .ofNat 4)), (68, 2, (.ofNat 1, .ofNat 4))])], [(68, 0, (.ofNat 1, .ofNat 8)), (68, 1, (.ofNat 1, .ofNat 4)), (68, 2, (.ofNat 1, .ofNat 4))])
def cg_X12_keepsStep_1 : List (Nat × AK) := []
def ca_X12_keepsStep_1_15 : Nat × AA := (15, [(.ofNat 0, .ofNat 0), (.ofNat 130, .ofNat 2131), (.ofNat 30, .ofNat 30), (.ofNat 1, .ofNat 8), (.ofNat 1, .ofNat 4), (.ofNat 1, .ofNat 4)], [.inr (.inl [67]), .inl (1, .ofNat 0)], [], [(68, 5, 2, .ofNat 0), (68, 0, 3, .ofNat 0), (68, 1, 4, .ofNat 0), (68, 2, 5, .ofNat 0)], [(0, 1, 0), (2, 68, 5), (2, 68, 0), (2, 68, 1), (2, 68, 2)], (.ofNat 2203, [.ofNat 0, .negSucc 0, .ofNat 0, .ofNat 0, .ofNat 0, .ofNat 0]))
def ca_X12_keepsStep_1_43 : Nat × AA := (43, [(.ofNat 0, .ofNat 0), (.ofNat 2131, .ofNat 2131), (.ofNat 30, .ofNat 30), (.ofNat 1, .ofNat 8), (.ofNat 1, .ofNat 4), (.ofNat 1, .ofNat 4)], [.inr (.inl [67]), .inl (1, .ofNat 0)], [], [(68, 5, 2, .ofNat 0), (68, 0, 3, .ofNat 0), (68, 1, 4, .ofNat 0), (68, 2, 5, .ofNat 0)], [(0, 1, 0), (2, 68, 5), (2, 68, 0), (2, 68, 1), (2, 68, 2)], (.ofNat 71, [.ofNat 0, .ofNat 0, .ofNat 0, .ofNat 0, .ofNat 0, .ofNat 0]))
def ca_X12_keepsStep_1_53 : Nat × AA := (53, [(.ofNat 0, .ofNat 0), (.ofNat 0, .ofNat 69), (.ofNat 0, .ofNat 29), (.ofNat 1, .ofNat 8), (.ofNat 1, .ofNat 4), (.ofNat 1, .ofNat 4)], [.inr (.inl [67]), .inl (1, .ofNat 0)], [], [(68, 5, 2, .ofNat 0), (68, 0, 3, .ofNat 0), (68, 1, 4, .ofNat 0), (68, 2, 5, .ofNat 0)], [(0, 1, 0), (2, 68, 5), (2, 68, 0), (2, 68, 1), (2, 68, 2)], (.ofNat 70, [.ofNat 0, .negSucc 0, .ofNat 0, .ofNat 0, .ofNat 0, .ofNat 0]))
def ca_X12_keepsStep_1_94 : Nat × AA := (94, [(.ofNat 0, .ofNat 0), (.ofNat 69, .ofNat 69), (.ofNat 0, .ofNat 29), (.ofNat 1, .ofNat 8), (.ofNat 1, .ofNat 4), (.ofNat 1, .ofNat 4)], [.inr (.inl [67]), .inl (1, .ofNat 0)], [], [(68, 5, 2, .ofNat 0), (68, 0, 3, .ofNat 0), (68, 1, 4, .ofNat 0), (68, 2, 5, .ofNat 0)], [(0, 1, 0), (2, 68, 5), (2, 68, 0), (2, 68, 1), (2, 68, 2)], (.ofNat 0, [.ofNat 0, .ofNat 0, .ofNat 0, .ofNat 0, .ofNat 0, .ofNat 0]))
def ca_X12_keepsStep_1 : List (Nat × AA) := [ca_X12_keepsStep_1_15, ca_X12_keepsStep_1_43, ca_X12_keepsStep_1_53, ca_X12_keepsStep_1_94]
set_option maxRecDepth 100000 in
theorem cc_X12_keepsStep_1 : aChk QPl CF ck_X12_keepsStep_1 cg_X12_keepsStep_1 xxX12 mX12_keepsStep tX12_keepsStep ca_X12_keepsStep_1 [15, 53] 2074 = true := by decide +kernel
theorem cx_X12_keepsStep_1 : ctsO QQ CF xxX12 cg_X12_keepsStep_1 := ctsO_nil
set_option maxRecDepth 100000 in
set_option maxHeartbeats 4000000 in
theorem seg_X12_keepsStep_1 : ∀ q, q ∈ ca_X12_keepsStep_1 → nmem q.1 [15, 53] = true → ∀ (l : Launch) (d : Nat) (sh : List XO) (I : XI) (as : List Value) (Rp : XR), agO ck_X12_keepsStep_1.2.1 as → (∀ I2, frO ck_X12_keepsStep_1.2.2.1 I I2 → QQ I2) → outO QQ CF ck_X12_keepsStep_1.2.2.1 ck_X12_keepsStep_1.2.2.2.1 sh I ck_X12_keepsStep_1.2.2.2.2.1 as Rp → segO CF ck_X12_keepsStep_1.2.2.1 ck_X12_keepsStep_1.2.2.2.1 sh I xxX12 mX12_keepsStep.2.2.2 (!(Nat.beq 0 0)) sh.length 0 0 l (d + (ck_X12_keepsStep_1.1 - 1)) tX12_keepsStep (ca_X12_keepsStep_1.map fun q => q.1) Rp as ca_X12_keepsStep_1 (aInts ck_X12_keepsStep_1.2.1).length q := by
  intro q hq hz l d sh0 I0 as Rp ha _ _ K R lc st sh I J hK hg hp
  simp only [ca_X12_keepsStep_1, List.mem_cons, List.not_mem_nil, or_false] at hq
  rcases hq with rfl | rfl | rfl | rfl
  · cases st with
    | cons _ _ => exact hg.2.1.2.elim
    | nil =>
      obtain ⟨ru, ta, rs, _, _, rfl⟩ := shX hg.2.2.2.1
      obtain ⟨o0, e0, p0, hp0, y0⟩ := hg.2.1.1 0 (.inr (.inl [67])) rfl
      obtain ⟨o1, e1, x, y1, z, hzk, hx⟩ := hg.2.1.1 1 (.inl (1, .ofNat 0)) rfl
      obtain ⟨a0, a1, r, rfl⟩ := ex2 e1
      cases e0
      cases e1
      subst y0 y1
      have hp0 := List.mem_singleton.mp hp0
      subst hp0
      replace hx : x.toInt = z + 0 := hx
      have hzE : inI ((130 : Int), (2131 : Int)) z := hg.1.1.2 1 z _ hzk rfl
      have hz1 := hzE.1
      have hz2 := hzE.2
      dsimp only at hz1 hz2
      obtain ⟨k, rfl, hk0, hk, _⟩ := nI_inI (x := x) (a := 130) (b := 2131) (by rw [hx]; exact ⟨by show (130 : Int) ≤ z + 0; omega, by show z + 0 ≤ (2131 : Int); omega⟩) (by decide)
      have hkz : (k : Int) = z := by
        rw [nI_toInt (by omega)] at hx
        omega
      have hT : ∀ e, e ∈ ca_X12_keepsStep_1_15.2.2.2.2.1 → e.1 = 68 → e.2.1 < 60 := by decide
      have out : k = 2131 → K 43 (some (.ref 67) :: some (.int (nI k)) :: r) [] (shH ru ta rs) I J 0 0 := by
        intro hkk
        exact hK 43 (ca_X12_keepsStep_1_15.2.1.set 1 (2131, 2131), ca_X12_keepsStep_1_15.2.2.1, ca_X12_keepsStep_1_15.2.2.2.1, ca_X12_keepsStep_1_15.2.2.2.2.1) (by decide +kernel) R _ [] _ I J (ga_setE (S := stA ca_X12_keepsStep_1_15.2) (r := (2131, 2131)) rfl hzk ⟨by show (2131 : Int) ≤ z; omega, by show z ≤ (2131 : Int); omega⟩ hg)
      have fin : ∀ I2, ga CF ck_X12_keepsStep_1.2.2.1 ck_X12_keepsStep_1.2.2.2.1 sh0 I0 R R (stA ca_X12_keepsStep_1_15.2) (some (.ref 67) :: some (.int (nI k)) :: r) [] (shH ru ta rs) I2 → k < 2131 → K 15 (some (.ref 67) :: some (.int (nI k + 1)) :: r) [] (shH ru ta rs) I2 J 0 0 := by
        intro I2 h2 hkk
        have h3 := ga_setE (S := stA ca_X12_keepsStep_1_15.2) (r := (130, 2130)) rfl hzk ⟨by show (130 : Int) ≤ z; omega, by show z ≤ (2130 : Int); omega⟩ h2
        refine hK 15 (ca_X12_keepsStep_1_15.2.1.set 1 (130, 2130), [.inr (.inl [67]), .inl (1, .ofNat 1)], [], ca_X12_keepsStep_1_15.2.2.2.2.1) (by decide +kernel) R _ [] _ I2 J ⟨h3.1, ⟨fun i a ha => ?_, trivial⟩, h3.2.2⟩
        match i, ha with
        | 0, ha =>
          cases ha
          exact ⟨_, rfl, 67, List.mem_singleton.mpr rfl, rfl⟩
        | 1, ha =>
          cases ha
          exact ⟨_, rfl, _, rfl, num_add1 hzk hx (by omega)⟩
        | _ + 2, ha => cases ha
      refine And.intro (fun h => out ?_) (fun h => ?_)
      · rcases Nat.lt_or_ge k 2131 with y | y
        · exact absurd h (nI_ge (a := k) (b := 2131) y (by omega))
        · omega
      have hk2 : k < 2131 := by
        rcases Nat.lt_or_ge k 2131 with y | y
        · exact y
        · exact absurd (nI_le (a := 2131) (b := k) y (by omega)) h
      have q1 : (nI k).toNatClampNeg = k := nI_clamp (by omega)
      have q2 : (nI k + nI 69).toNatClampNeg = k + 69 := by rw [nI_add]; exact nI_clamp (by omega)
      have w2 : vp_in (nI k + nI 69) 2200 := by rw [nI_add]; exact vp_in_nI (by omega) (by omega)
      refine And.intro w2 (And.intro (vp_in_nI (N := 2200) (by omega) (by omega)) ?_)
      have y := fin (uI I 68 k (I 68 (k + 69))) (ga_put68 hg rfl hT (by omega) (by omega) (cell_next (by omega))) (by omega)
      have z : uI I 68 (nI k).toNatClampNeg (I 68 (nI k + nI 69).toNatClampNeg) = uI I 68 k (I 68 (k + 69)) := by rw [q1, q2]
      rw [← z] at y
      exact y
  · exact absurd hz (by decide)
  · cases st with
    | cons _ _ => exact hg.2.1.2.elim
    | nil =>
      obtain ⟨ru, ta, rs, _, _, rfl⟩ := shX hg.2.2.2.1
      obtain ⟨o0, e0, p0, hp0, y0⟩ := hg.2.1.1 0 (.inr (.inl [67])) rfl
      obtain ⟨o1, e1, x, y1, z, hzk, hx⟩ := hg.2.1.1 1 (.inl (1, .ofNat 0)) rfl
      obtain ⟨a0, a1, r, rfl⟩ := ex2 e1
      cases e0
      cases e1
      subst y0 y1
      have hp0 := List.mem_singleton.mp hp0
      subst hp0
      replace hx : x.toInt = z + 0 := hx
      have hzE : inI ((0 : Int), (69 : Int)) z := hg.1.1.2 1 z _ hzk rfl
      have hz1 := hzE.1
      have hz2 := hzE.2
      dsimp only at hz1 hz2
      obtain ⟨k, rfl, hk0, hk, _⟩ := nI_inI (x := x) (a := 0) (b := 69) (by rw [hx]; exact ⟨by show (0 : Int) ≤ z + 0; omega, by show z + 0 ≤ (69 : Int); omega⟩) (by decide)
      have hkz : (k : Int) = z := by
        rw [nI_toInt (by omega)] at hx
        omega
      have hT : ∀ e, e ∈ ca_X12_keepsStep_1_53.2.2.2.2.1 → e.1 = 68 → e.2.1 < 60 := by decide
      have out : k = 69 → K 94 (some (.ref 67) :: some (.int (nI k)) :: r) [] (shH ru ta rs) I J 0 0 := by
        intro hkk
        exact hK 94 (ca_X12_keepsStep_1_53.2.1.set 1 (69, 69), ca_X12_keepsStep_1_53.2.2.1, ca_X12_keepsStep_1_53.2.2.2.1, ca_X12_keepsStep_1_53.2.2.2.2.1) (by decide +kernel) R _ [] _ I J (ga_setE (S := stA ca_X12_keepsStep_1_53.2) (r := (69, 69)) rfl hzk ⟨by show (69 : Int) ≤ z; omega, by show z ≤ (69 : Int); omega⟩ hg)
      have fin : ∀ I2, ga CF ck_X12_keepsStep_1.2.2.1 ck_X12_keepsStep_1.2.2.2.1 sh0 I0 R R (stA ca_X12_keepsStep_1_53.2) (some (.ref 67) :: some (.int (nI k)) :: r) [] (shH ru ta rs) I2 → k < 69 → K 53 (some (.ref 67) :: some (.int (nI k + 1)) :: r) [] (shH ru ta rs) I2 J 0 0 := by
        intro I2 h2 hkk
        have h3 := ga_setE (S := stA ca_X12_keepsStep_1_53.2) (r := (0, 68)) rfl hzk ⟨by show (0 : Int) ≤ z; omega, by show z ≤ (68 : Int); omega⟩ h2
        refine hK 53 (ca_X12_keepsStep_1_53.2.1.set 1 (0, 68), [.inr (.inl [67]), .inl (1, .ofNat 1)], [], ca_X12_keepsStep_1_53.2.2.2.2.1) (by decide +kernel) R _ [] _ I2 J ⟨h3.1, ⟨fun i a ha => ?_, trivial⟩, h3.2.2⟩
        match i, ha with
        | 0, ha =>
          cases ha
          exact ⟨_, rfl, 67, List.mem_singleton.mpr rfl, rfl⟩
        | 1, ha =>
          cases ha
          exact ⟨_, rfl, _, rfl, num_add1 hzk hx (by omega)⟩
        | _ + 2, ha => cases ha
      obtain ⟨s, hs2, hsx⟩ : numO R (2, .ofNat 0) (I 68 5) := hg.2.2.1.1 68 5 _ rfl
      replace hsx : (I 68 5).toInt = s := hsx.trans (Int.add_zero s)
      have hsE : inI ((0 : Int), (29 : Int)) s := hg.1.1.2 2 s _ hs2 rfl
      obtain ⟨S, eS, _, hS, _⟩ := nI_inI (x := I 68 5) (a := 0) (b := 29) (by rw [hsx]; exact ⟨by show (0 : Int) ≤ s; exact hsE.1, by show s ≤ (29 : Int); exact hsE.2⟩) (by decide)
      refine And.intro (fun h => out ?_) (fun h => ?_)
      · rcases Nat.lt_or_ge k 69 with y | y
        · exact absurd h (nI_ge (a := k) (b := 69) y (by omega))
        · omega
      have hk2 : k < 69 := by
        rcases Nat.lt_or_ge k 69 with y | y
        · exact y
        · exact absurd (nI_le (a := 69) (b := k) y (by omega)) h
      obtain ⟨q1, w1⟩ := ix_col (S := S) (k := k) (by omega) hk2
      obtain ⟨q2, w2⟩ := ix_row hk2
      rw [← eS] at q1 w1
      refine And.intro (vp_in_nI (N := 2200) (n := 5) (by omega) (by omega)) (And.intro w2 (And.intro w1 ?_))
      have y := fin (uI I 68 (130 + 69 * S + k) (I 68 (60 + k))) (ga_put68 hg rfl hT (by omega) (by omega) (cell_col hk2)) (by omega)
      rw [← q1, ← q2] at y
      exact y
  · exact absurd hz (by decide)
theorem ct_X12_keepsStep_1 : ctrO QQ CF ck_X12_keepsStep_1 mX12_keepsStep := chk_okS (Q := QQ) (QP := QPl) (C := CF) (c := ck_X12_keepsStep_1) (G := cg_X12_keepsStep_1) (X := xxX12) (M := mX12_keepsStep) (t := tX12_keepsStep) (anns := ca_X12_keepsStep_1) [15, 53] 2074 xx12 pl12 rfl kX12_keepsStep qq_ok cx_X12_keepsStep_1 seg_X12_keepsStep_1 cc_X12_keepsStep_1
def ck_X12_draw_1 : AK := (1, [.inr (.inl [67]), .inl (.ofNat 6, .ofNat 6)], [93], false, [([(.ofNat 6, .ofNat 6)], .inl (.ofNat 0, .ofNat 5), [(93, 68, (.ofNat 0, .ofNat 30312)), (93, 64, fr)])], [(93, 68, (.ofNat 0, .ofNat 30312)), (93, 64, fr)])
def cg_X12_draw_1 : List (Nat × AK) := []
def ca_X12_draw_1 : List (Nat × AA) := []
set_option maxRecDepth 100000 in
theorem cc_X12_draw_1 : aChk QPl CF ck_X12_draw_1 cg_X12_draw_1 xxX12 mX12_draw tX12_draw ca_X12_draw_1 [] 1 = true := by decide +kernel
theorem cx_X12_draw_1 : ctsO QQ CF xxX12 cg_X12_draw_1 := ctsO_nil
theorem ct_X12_draw_1 : ctrO QQ CF ck_X12_draw_1 mX12_draw := chk_ok (Q := QQ) (QP := QPl) (C := CF) (c := ck_X12_draw_1) (G := cg_X12_draw_1) (X := xxX12) (M := mX12_draw) (t := tX12_draw) (anns := ca_X12_draw_1) 1 xx12 pl12 rfl kX12_draw qq_ok cx_X12_draw_1 cc_X12_draw_1
def ck_X12_draw_2 : AK := (1, [.inr (.inl [67]), .inl (.ofNat 1, .ofNat 8)], [93], false, [([(.ofNat 1, .ofNat 8)], .inl (.ofNat 0, .ofNat 7), [(93, 68, (.ofNat 0, .ofNat 30312)), (93, 64, fr)])], [(93, 68, (.ofNat 0, .ofNat 30312)), (93, 64, fr)])
def cg_X12_draw_2 : List (Nat × AK) := []
def ca_X12_draw_2 : List (Nat × AA) := []
set_option maxRecDepth 100000 in
theorem cc_X12_draw_2 : aChk QPl CF ck_X12_draw_2 cg_X12_draw_2 xxX12 mX12_draw tX12_draw ca_X12_draw_2 [] 1 = true := by decide +kernel
theorem cx_X12_draw_2 : ctsO QQ CF xxX12 cg_X12_draw_2 := ctsO_nil
theorem ct_X12_draw_2 : ctrO QQ CF ck_X12_draw_2 mX12_draw := chk_ok (Q := QQ) (QP := QPl) (C := CF) (c := ck_X12_draw_2) (G := cg_X12_draw_2) (X := xxX12) (M := mX12_draw) (t := tX12_draw) (anns := ca_X12_draw_2) 1 xx12 pl12 rfl kX12_draw qq_ok cx_X12_draw_2 cc_X12_draw_2
def ck_X12_draw_3 : AK := (1, [.inr (.inl [67]), .inl (.ofNat 1, .ofNat 4)], [93], false, [([(.ofNat 1, .ofNat 4)], .inl (.ofNat 0, .ofNat 3), [(93, 68, (.ofNat 0, .ofNat 30312)), (93, 64, fr)])], [(93, 68, (.ofNat 0, .ofNat 30312)), (93, 64, fr)])
def cg_X12_draw_3 : List (Nat × AK) := []
def ca_X12_draw_3 : List (Nat × AA) := []
set_option maxRecDepth 100000 in
theorem cc_X12_draw_3 : aChk QPl CF ck_X12_draw_3 cg_X12_draw_3 xxX12 mX12_draw tX12_draw ca_X12_draw_3 [] 1 = true := by decide +kernel
theorem cx_X12_draw_3 : ctsO QQ CF xxX12 cg_X12_draw_3 := ctsO_nil
theorem ct_X12_draw_3 : ctrO QQ CF ck_X12_draw_3 mX12_draw := chk_ok (Q := QQ) (QP := QPl) (C := CF) (c := ck_X12_draw_3) (G := cg_X12_draw_3) (X := xxX12) (M := mX12_draw) (t := tX12_draw) (anns := ca_X12_draw_3) 1 xx12 pl12 rfl kX12_draw qq_ok cx_X12_draw_3 cc_X12_draw_3
def ck_X12_bales_1 : AK := (1, [.inr (.inl [67]), .inl (.ofNat 0, .ofNat 11), .inl fr, .inl (.ofNat 0, .ofNat 999), .inl fr], [93], false, [([(.ofNat 0, .ofNat 11), fr, (.ofNat 0, .ofNat 999), fr], .inr (.inr 9), [(93, 68, (.ofNat 0, .ofNat 30312)), (93, 64, fr)])], [(93, 68, (.ofNat 0, .ofNat 30312)), (93, 64, fr)])
def cg_X12_bales_1 : List (Nat × AK) := []
def ca_X12_bales_1 : List (Nat × AA) := []
set_option maxRecDepth 100000 in
theorem cc_X12_bales_1 : aChk QPl CF ck_X12_bales_1 cg_X12_bales_1 xxX12 mX12_bales tX12_bales ca_X12_bales_1 [] 1 = true := by decide +kernel
theorem cx_X12_bales_1 : ctsO QQ CF xxX12 cg_X12_bales_1 := ctsO_nil
theorem ct_X12_bales_1 : ctrO QQ CF ck_X12_bales_1 mX12_bales := chk_ok (Q := QQ) (QP := QPl) (C := CF) (c := ck_X12_bales_1) (G := cg_X12_bales_1) (X := xxX12) (M := mX12_bales) (t := tX12_bales) (anns := ca_X12_bales_1) 1 xx12 pl12 rfl kX12_bales qq_ok cx_X12_bales_1 cc_X12_bales_1
def ck_X12_cutsNow_1 : AK := (10, [.inr (.inl [67]), .inl (.ofNat 0, .ofNat 7), .inl (.ofNat 0, .ofNat 3), .inl (.ofNat 0, .ofNat 3)], [91, 93], false, [([(.ofNat 0, .ofNat 7), (.ofNat 0, .ofNat 3), (.ofNat 0, .ofNat 3)], .inl (.negSucc 0, .negSucc 0), [(93, 68, (.ofNat 0, .ofNat 30312))]), ([(.ofNat 0, .ofNat 7), (.ofNat 0, .ofNat 3), (.ofNat 0, .ofNat 3)], .inl (.ofNat 0, .ofNat 11), [(93, 68, (.ofNat 0, .ofNat 30312))])], [(93, 68, (.ofNat 0, .ofNat 30312))])
def cg_X12_cutsNow_1 : List (Nat × AK) := [(372, ck_X12_longOf_0), (375, ck_X12_freeBale_0), (378, ck_X12_least_2), (381, ck_X12_mayCut_0), (384, ck_X12_isRoom_0), (365, ck_X12_bales_1)]
def ca_X12_cutsNow_1_1 : Nat × AA := (1, [(.ofNat 0, .ofNat 0), (.ofNat 0, .ofNat 7), (.ofNat 0, .ofNat 3), (.ofNat 0, .ofNat 3), (.ofNat 0, .ofNat 30312)], [.inr (.inl [67]), .inl (1, .ofNat 0), .inl (2, .ofNat 0), .inl (3, .ofNat 0), .inr (.inr 0), .inr (.inr 0), .inr (.inr 0)], [.inr (.inl [67])], [(93, 68, 4, .ofNat 0)], [(2, 93, 68)], (.ofNat 0, [.ofNat 0, .ofNat 0, .ofNat 0, .ofNat 0, .ofNat 0]))
def ca_X12_cutsNow_1 : List (Nat × AA) := [ca_X12_cutsNow_1_1]
set_option maxRecDepth 100000 in
theorem cc_X12_cutsNow_1 : aChk QPl CF ck_X12_cutsNow_1 cg_X12_cutsNow_1 xxX12 mX12_cutsNow tX12_cutsNow ca_X12_cutsNow_1 [1] 1 = true := by decide +kernel
theorem cx_X12_cutsNow_1 : ctsO QQ CF xxX12 cg_X12_cutsNow_1 := ctsO_cons rfl ct_X12_longOf_0 (ctsO_cons rfl ct_X12_freeBale_0 (ctsO_cons rfl ct_X12_least_2 (ctsO_cons rfl ct_X12_mayCut_0 (ctsO_cons rfl ct_X12_isRoom_0 (ctsO_cons rfl ct_X12_bales_1 (ctsO_nil))))))
set_option maxRecDepth 100000 in
theorem ce_X12_cutsNow_1_1 : ((List.range 4).all fun k => aN CF ck_X12_cutsNow_1.2.2.1 ck_X12_cutsNow_1.2.2.2.1 cg_X12_cutsNow_1 (ck_X12_cutsNow_1.1 - 1) ck_X12_cutsNow_1.2.2.2.2.1 xxX12 mX12_cutsNow.2.2.2 tX12_cutsNow (ca_X12_cutsNow_1.map fun q => q.1) (kkA CF ((aInts ck_X12_cutsNow_1.2.1).length + 1) ca_X12_cutsNow_1 (some ca_X12_cutsNow_1_1.2.2.2.2.2.2)) 1 (enS ca_X12_cutsNow_1_1.2 2 ((Int.ofNat 0 : Int) + (k : Int)))) = true := by decide +kernel
theorem seg_X12_cutsNow_1 : ∀ q, q ∈ ca_X12_cutsNow_1 → nmem q.1 [1] = true → ∀ (l : Launch) (d : Nat) (sh : List XO) (I : XI) (as : List Value) (Rp : XR), agO ck_X12_cutsNow_1.2.1 as → (∀ I2, frO ck_X12_cutsNow_1.2.2.1 I I2 → QQ I2) → outO QQ CF ck_X12_cutsNow_1.2.2.1 ck_X12_cutsNow_1.2.2.2.1 sh I ck_X12_cutsNow_1.2.2.2.2.1 as Rp → segO CF ck_X12_cutsNow_1.2.2.1 ck_X12_cutsNow_1.2.2.2.1 sh I xxX12 mX12_cutsNow.2.2.2 (!(Nat.beq 0 0)) sh.length 0 0 l (d + (ck_X12_cutsNow_1.1 - 1)) tX12_cutsNow (ca_X12_cutsNow_1.map fun q => q.1) Rp as ca_X12_cutsNow_1 (aInts ck_X12_cutsNow_1.2.1).length q := by
  intro q hq hz l d sh0 I0 as Rp ha hQ hO
  simp only [ca_X12_cutsNow_1, List.mem_cons, List.not_mem_nil, or_false] at hq
  rcases hq with rfl
  · exact seg_enum hQ cx_X12_cutsNow_1 hO 2 3 (Int.ofNat 0 : Int) rfl (fun k hk => List.all_eq_true.mp ce_X12_cutsNow_1_1 k (List.mem_range.mpr (by omega)))
theorem ct_X12_cutsNow_1 : ctrO QQ CF ck_X12_cutsNow_1 mX12_cutsNow := chk_okS (Q := QQ) (QP := QPl) (C := CF) (c := ck_X12_cutsNow_1) (G := cg_X12_cutsNow_1) (X := xxX12) (M := mX12_cutsNow) (t := tX12_cutsNow) (anns := ca_X12_cutsNow_1) [1] 1 xx12 pl12 rfl kX12_cutsNow qq_ok cx_X12_cutsNow_1 seg_X12_cutsNow_1 cc_X12_cutsNow_1
def ck_X12_draw_4 : AK := (1, [.inr (.inl [67]), .inl (.ofNat 12, .ofNat 12)], [93], false, [([(.ofNat 12, .ofNat 12)], .inl (.ofNat 0, .ofNat 11), [(93, 68, (.ofNat 0, .ofNat 30312)), (93, 64, fr)])], [(93, 68, (.ofNat 0, .ofNat 30312)), (93, 64, fr)])
def cg_X12_draw_4 : List (Nat × AK) := []
def ca_X12_draw_4 : List (Nat × AA) := []
set_option maxRecDepth 100000 in
theorem cc_X12_draw_4 : aChk QPl CF ck_X12_draw_4 cg_X12_draw_4 xxX12 mX12_draw tX12_draw ca_X12_draw_4 [] 1 = true := by decide +kernel
theorem cx_X12_draw_4 : ctsO QQ CF xxX12 cg_X12_draw_4 := ctsO_nil
theorem ct_X12_draw_4 : ctrO QQ CF ck_X12_draw_4 mX12_draw := chk_ok (Q := QQ) (QP := QPl) (C := CF) (c := ck_X12_draw_4) (G := cg_X12_draw_4) (X := xxX12) (M := mX12_draw) (t := tX12_draw) (anns := ca_X12_draw_4) 1 xx12 pl12 rfl kX12_draw qq_ok cx_X12_draw_4 cc_X12_draw_4
def ck_X12_draw_5 : AK := (1, [.inr (.inl [67]), .inl (.ofNat 20, .ofNat 20)], [93], false, [([(.ofNat 20, .ofNat 20)], .inl (.ofNat 0, .ofNat 19), [(93, 68, (.ofNat 0, .ofNat 30312)), (93, 64, fr)])], [(93, 68, (.ofNat 0, .ofNat 30312)), (93, 64, fr)])
def cg_X12_draw_5 : List (Nat × AK) := []
def ca_X12_draw_5 : List (Nat × AA) := []
set_option maxRecDepth 100000 in
theorem cc_X12_draw_5 : aChk QPl CF ck_X12_draw_5 cg_X12_draw_5 xxX12 mX12_draw tX12_draw ca_X12_draw_5 [] 1 = true := by decide +kernel
theorem cx_X12_draw_5 : ctsO QQ CF xxX12 cg_X12_draw_5 := ctsO_nil
theorem ct_X12_draw_5 : ctrO QQ CF ck_X12_draw_5 mX12_draw := chk_ok (Q := QQ) (QP := QPl) (C := CF) (c := ck_X12_draw_5) (G := cg_X12_draw_5) (X := xxX12) (M := mX12_draw) (t := tX12_draw) (anns := ca_X12_draw_5) 1 xx12 pl12 rfl kX12_draw qq_ok cx_X12_draw_5 cc_X12_draw_5
def ck_X12_shortens_1 : AK := (2, [.inr (.inl [67]), .inl (.ofNat 0, .ofNat 11), .inl (.ofNat 0, .ofNat 999)], [93], false, [([(.ofNat 0, .ofNat 11), (.ofNat 0, .ofNat 999)], .inr (.inr 9), [(93, 68, (.ofNat 0, .ofNat 30312)), (93, 64, fr)])], [(93, 68, (.ofNat 0, .ofNat 30312)), (93, 64, fr)])
set_option maxRecDepth 100000 in
set_option maxHeartbeats 1000000 in
theorem ct_X12_shortens_1 : ctrO QQ CF ck_X12_shortens_1 mX12_shortens := by
  intro l d sh I J as Rp ha hce hs hi hq hR
  obtain ⟨x, y, rfl, hx, hy⟩ := ag1ii ha
  obtain ⟨ru, ta, rs, hru, hta, rfl⟩ := shX hs
  obtain ⟨b, rfl, _, hb, _⟩ := nI_inI (a := 0) (b := 11) hx (by decide)
  have hL := lens_of hi
  have hy1 : 0 ≤ y.toInt := hy.1
  have hy2 : y.toInt ≤ 999 := hy.2
  have go : ∀ I2, lens I2 → outW I I2 → Rp none (shH ru ta rs) I2 J := by
    intro I2 h1 h2
    refine hR none _ I2 J hs (fun _ => rfl) (iv_out hi h1 h2) (qq_ok I I2 (fun p hp => h2.1 p (fun z => ?_)) hq) (fun p hp => h2.1 p (fun z => ?_)) ⟨_, List.mem_cons_self, fun i r z w1 w2 => agO_in ha w2 w1, rfl, fun e he => ?_⟩
    · subst z
      exact absurd hp (by decide)
    · subst z
      exact absurd hp (by decide)
    · rcases List.mem_cons.mp he with rfl | he
      · have y := hce _ List.mem_cons_self
        show inI _ (I2 93 68).toInt
        rw [h2.2 68 (by omega)]
        exact y
      · rw [List.mem_singleton.mp he]
        have y := hce _ (List.mem_cons_of_mem _ List.mem_cons_self)
        show inI _ (I2 93 64).toInt
        rw [h2.2 64 (by omega)]
        exact y
  exact hm_shortens l d b (by omega) y ru ta rs I J Rp (fun g => (fun u => go _ u.1 u.2) (sh_upd1 (by omega) hL hy1 hy2 g)) (fun g => (fun u => go _ u.1 u.2) (sh_upd2 (by omega) hL hy1 hy2 g))
def ck_X12_sellsNow_1 : AK := (10, [.inr (.inl [67]), .inl (.ofNat 0, .ofNat 11)], [91, 93], false, [([(.ofNat 0, .ofNat 11)], .inl (.ofNat 0, .ofNat 9999), [(93, 68, (.ofNat 0, .ofNat 30312))])], [(93, 68, (.ofNat 0, .ofNat 30312))])
def cg_X12_sellsNow_1 : List (Nat × AK) := [(390, ck_X12_sellsOf_0), (365, ck_X12_bales_1)]
def ca_X12_sellsNow_1 : List (Nat × AA) := []
set_option maxRecDepth 100000 in
theorem cc_X12_sellsNow_1 : aChk QPl CF ck_X12_sellsNow_1 cg_X12_sellsNow_1 xxX12 mX12_sellsNow tX12_sellsNow ca_X12_sellsNow_1 [] 1 = true := by decide +kernel
theorem cx_X12_sellsNow_1 : ctsO QQ CF xxX12 cg_X12_sellsNow_1 := ctsO_cons rfl ct_X12_sellsOf_0 (ctsO_cons rfl ct_X12_bales_1 (ctsO_nil))
theorem ct_X12_sellsNow_1 : ctrO QQ CF ck_X12_sellsNow_1 mX12_sellsNow := chk_ok (Q := QQ) (QP := QPl) (C := CF) (c := ck_X12_sellsNow_1) (G := cg_X12_sellsNow_1) (X := xxX12) (M := mX12_sellsNow) (t := tX12_sellsNow) (anns := ca_X12_sellsNow_1) 1 xx12 pl12 rfl kX12_sellsNow qq_ok cx_X12_sellsNow_1 cc_X12_sellsNow_1
def ck_X12_draw_6 : AK := (1, [.inr (.inl [67]), .inl (.ofNat 10, .ofNat 10)], [93], false, [([(.ofNat 10, .ofNat 10)], .inl (.ofNat 0, .ofNat 9), [(93, 68, (.ofNat 0, .ofNat 30312)), (93, 64, (.ofNat 0, .ofNat 0))])], [(93, 68, (.ofNat 0, .ofNat 30312)), (93, 64, (.ofNat 0, .ofNat 0))])
def cg_X12_draw_6 : List (Nat × AK) := []
def ca_X12_draw_6 : List (Nat × AA) := []
set_option maxRecDepth 100000 in
theorem cc_X12_draw_6 : aChk QPl CF ck_X12_draw_6 cg_X12_draw_6 xxX12 mX12_draw tX12_draw ca_X12_draw_6 [] 1 = true := by decide +kernel
theorem cx_X12_draw_6 : ctsO QQ CF xxX12 cg_X12_draw_6 := ctsO_nil
theorem ct_X12_draw_6 : ctrO QQ CF ck_X12_draw_6 mX12_draw := chk_ok (Q := QQ) (QP := QPl) (C := CF) (c := ck_X12_draw_6) (G := cg_X12_draw_6) (X := xxX12) (M := mX12_draw) (t := tX12_draw) (anns := ca_X12_draw_6) 1 xx12 pl12 rfl kX12_draw qq_ok cx_X12_draw_6 cc_X12_draw_6
def ck_X12_shortens_2 : AK := (2, [.inr (.inl [67]), .inl (.ofNat 0, .ofNat 11), .inl (.ofNat 0, .ofNat 999)], [93], false, [([(.ofNat 0, .ofNat 11), (.ofNat 0, .ofNat 999)], .inr (.inr 9), [(93, 68, (.ofNat 0, .ofNat 30312)), (93, 64, (.ofNat 0, .ofNat 0))])], [(93, 68, (.ofNat 0, .ofNat 30312)), (93, 64, (.ofNat 0, .ofNat 0))])
set_option maxRecDepth 100000 in
set_option maxHeartbeats 1000000 in
theorem ct_X12_shortens_2 : ctrO QQ CF ck_X12_shortens_2 mX12_shortens := by
  intro l d sh I J as Rp ha hce hs hi hq hR
  obtain ⟨x, y, rfl, hx, hy⟩ := ag1ii ha
  obtain ⟨ru, ta, rs, hru, hta, rfl⟩ := shX hs
  obtain ⟨b, rfl, _, hb, _⟩ := nI_inI (a := 0) (b := 11) hx (by decide)
  have hL := lens_of hi
  have hy1 : 0 ≤ y.toInt := hy.1
  have hy2 : y.toInt ≤ 999 := hy.2
  have go : ∀ I2, lens I2 → outW I I2 → Rp none (shH ru ta rs) I2 J := by
    intro I2 h1 h2
    refine hR none _ I2 J hs (fun _ => rfl) (iv_out hi h1 h2) (qq_ok I I2 (fun p hp => h2.1 p (fun z => ?_)) hq) (fun p hp => h2.1 p (fun z => ?_)) ⟨_, List.mem_cons_self, fun i r z w1 w2 => agO_in ha w2 w1, rfl, fun e he => ?_⟩
    · subst z
      exact absurd hp (by decide)
    · subst z
      exact absurd hp (by decide)
    · rcases List.mem_cons.mp he with rfl | he
      · have y := hce _ List.mem_cons_self
        show inI _ (I2 93 68).toInt
        rw [h2.2 68 (by omega)]
        exact y
      · rw [List.mem_singleton.mp he]
        have y := hce _ (List.mem_cons_of_mem _ List.mem_cons_self)
        show inI _ (I2 93 64).toInt
        rw [h2.2 64 (by omega)]
        exact y
  exact hm_shortens l d b (by omega) y ru ta rs I J Rp (fun g => (fun u => go _ u.1 u.2) (sh_upd1 (by omega) hL hy1 hy2 g)) (fun g => (fun u => go _ u.1 u.2) (sh_upd2 (by omega) hL hy1 hy2 g))
def ck_X12_dayBegins_1 : AK := (10, [.inr (.inl [67])], [91, 93], false, [([], .inr (.inr 9), [(93, 68, (.ofNat 0, .ofNat 30312)), (93, 64, (.ofNat 0, .ofNat 0))])], [(93, 68, (.ofNat 0, .ofNat 30312)), (93, 64, fr)])
def cg_X12_dayBegins_1 : List (Nat × AK) := [(393, ck_X12_draw_6), (396, ck_X12_growsOf_0), (399, ck_X12_spoilsOf_0), (387, ck_X12_shortens_2), (378, ck_X12_least_0), (378, ck_X12_least_1)]
def ca_X12_dayBegins_1 : List (Nat × AA) := [(34, [(.ofNat 0, .ofNat 0), (.ofNat 0, .ofNat 8), (.ofNat 0, .ofNat 9), (.ofNat 0, .ofNat 0), (.ofNat 0, .ofNat 30312)], [.inr (.inl [67]), .inl (1, .ofNat 0), .inr (.inr 0)], [], [(93, 66, 2, .ofNat 0), (93, 64, 3, .ofNat 0), (93, 68, 4, .ofNat 0)], [(0, 1, 0), (2, 93, 66), (2, 93, 64), (2, 93, 68)], (.ofNat 21, [.ofNat 0, .negSucc 0, .ofNat 0, .ofNat 0, .ofNat 0])), (91, [(.ofNat 0, .ofNat 0), (.ofNat 0, .ofNat 12), (.ofNat 0, .ofNat 8), (.ofNat 0, .ofNat 0), (.ofNat 0, .ofNat 30312)], [.inr (.inl [67]), .inl (1, .ofNat 0), .inr (.inr 0)], [], [(68, 0, 2, .ofNat 0), (93, 64, 3, .ofNat 0), (93, 68, 4, .ofNat 0)], [(0, 1, 0), (2, 68, 0), (2, 93, 64), (2, 93, 68)], (.ofNat 12, [.ofNat 0, .negSucc 0, .ofNat 0, .ofNat 0, .ofNat 0]))]
set_option maxRecDepth 100000 in
theorem cc_X12_dayBegins_1 : aChk QPl CF ck_X12_dayBegins_1 cg_X12_dayBegins_1 xxX12 mX12_dayBegins tX12_dayBegins ca_X12_dayBegins_1 [] 22 = true := by decide +kernel
theorem cx_X12_dayBegins_1 : ctsO QQ CF xxX12 cg_X12_dayBegins_1 := ctsO_cons rfl ct_X12_draw_6 (ctsO_cons rfl ct_X12_growsOf_0 (ctsO_cons rfl ct_X12_spoilsOf_0 (ctsO_cons rfl ct_X12_shortens_2 (ctsO_cons rfl ct_X12_least_0 (ctsO_cons rfl ct_X12_least_1 (ctsO_nil))))))
theorem ct_X12_dayBegins_1 : ctrO QQ CF ck_X12_dayBegins_1 mX12_dayBegins := chk_ok (Q := QQ) (QP := QPl) (C := CF) (c := ck_X12_dayBegins_1) (G := cg_X12_dayBegins_1) (X := xxX12) (M := mX12_dayBegins) (t := tX12_dayBegins) (anns := ca_X12_dayBegins_1) 22 xx12 pl12 rfl kX12_dayBegins qq_ok cx_X12_dayBegins_1 cc_X12_dayBegins_1
def ck_X12_hourPasses_1 : AK := (11, [.inr (.inl [67])], [91, 93], false, [([], .inr (.inr 9), [(93, 68, (.ofNat 0, .ofNat 30312))])], [(93, 68, (.ofNat 0, .ofNat 30312))])
def cg_X12_hourPasses_1 : List (Nat × AK) := [(402, ck_X12_dayBegins_1)]
def ca_X12_hourPasses_1 : List (Nat × AA) := [(13, [(.ofNat 0, .ofNat 0), (.ofNat 0, .ofNat 4), (.ofNat 0, .ofNat 30312)], [.inr (.inl [67]), .inl (1, .ofNat 0)], [], [(93, 68, 2, .ofNat 0)], [(0, 1, 0), (2, 93, 68)], (.ofNat 4, [.ofNat 0, .negSucc 0, .ofNat 0]))]
set_option maxRecDepth 100000 in
theorem cc_X12_hourPasses_1 : aChk QPl CF ck_X12_hourPasses_1 cg_X12_hourPasses_1 xxX12 mX12_hourPasses tX12_hourPasses ca_X12_hourPasses_1 [] 5 = true := by decide +kernel
theorem cx_X12_hourPasses_1 : ctsO QQ CF xxX12 cg_X12_hourPasses_1 := ctsO_cons rfl ct_X12_dayBegins_1 (ctsO_nil)
theorem ct_X12_hourPasses_1 : ctrO QQ CF ck_X12_hourPasses_1 mX12_hourPasses := chk_ok (Q := QQ) (QP := QPl) (C := CF) (c := ck_X12_hourPasses_1) (G := cg_X12_hourPasses_1) (X := xxX12) (M := mX12_hourPasses) (t := tX12_hourPasses) (anns := ca_X12_hourPasses_1) 5 xx12 pl12 rfl kX12_hourPasses qq_ok cx_X12_hourPasses_1 cc_X12_hourPasses_1
def ck_X12_passesThrough_0 : AK := (12, [.inr (.inl [67]), .inl fr], [91, 93], false, [([fr], .inr (.inr 9), [(93, 68, (.ofNat 0, .ofNat 30312))])], [(93, 68, (.ofNat 0, .ofNat 30312))])
def cg_X12_passesThrough_0 : List (Nat × AK) := [(417, ck_X12_canPass_0), (411, ck_X12_hourPasses_1)]
def ca_X12_passesThrough_0 : List (Nat × AA) := [(2, [(.ofNat 0, .ofNat 0), fr, (.ofNat 0, .ofNat 2147483647), (.ofNat 0, .ofNat 30312)], [.inr (.inl [67]), .inl (1, .ofNat 0), .inl (2, .ofNat 0)], [], [(93, 68, 3, .ofNat 0)], [(0, 2, 0), (2, 93, 68)], (.ofNat 2147483647, [.ofNat 0, .ofNat 0, .negSucc 0, .ofNat 0]))]
set_option maxRecDepth 100000 in
theorem cc_X12_passesThrough_0 : aChk QPl CF ck_X12_passesThrough_0 cg_X12_passesThrough_0 xxX12 mX12_passesThrough tX12_passesThrough ca_X12_passesThrough_0 [] 2147483648 = true := by decide +kernel
theorem cx_X12_passesThrough_0 : ctsO QQ CF xxX12 cg_X12_passesThrough_0 := ctsO_cons rfl ct_X12_canPass_0 (ctsO_cons rfl ct_X12_hourPasses_1 (ctsO_nil))
theorem ct_X12_passesThrough_0 : ctrO QQ CF ck_X12_passesThrough_0 mX12_passesThrough := chk_ok (Q := QQ) (QP := QPl) (C := CF) (c := ck_X12_passesThrough_0) (G := cg_X12_passesThrough_0) (X := xxX12) (M := mX12_passesThrough) (t := tX12_passesThrough) (anns := ca_X12_passesThrough_0) 2147483648 xx12 pl12 rfl kX12_passesThrough qq_ok cx_X12_passesThrough_0 cc_X12_passesThrough_0
def ck_X12_happens_0 : AK := (13, [.inr (.inl [67])], [91, 93], false, [([], .inr (.inr 9), [(93, 68, (.ofNat 0, .ofNat 30312))])], [(68, 0, (.ofNat 1, .ofNat 8)), (68, 1, (.ofNat 1, .ofNat 4)), (68, 2, (.ofNat 1, .ofNat 4)), (93, 68, (.ofNat 0, .ofNat 30312))])
def cg_X12_happens_0 : List (Nat × AK) := [(393, ck_X12_draw_1), (393, ck_X12_draw_4), (393, ck_X12_draw_5), (393, ck_X12_draw_3), (393, ck_X12_draw_2), (439, ck_X12_sellsNow_1), (430, ck_X12_cutsNow_1), (387, ck_X12_shortens_1), (442, ck_X12_passesThrough_0)]
def ca_X12_happens_0 : List (Nat × AA) := []
set_option maxRecDepth 100000 in
theorem cc_X12_happens_0 : aChk QPl CF ck_X12_happens_0 cg_X12_happens_0 xxX12 mX12_happens tX12_happens ca_X12_happens_0 [] 1 = true := by decide +kernel
theorem cx_X12_happens_0 : ctsO QQ CF xxX12 cg_X12_happens_0 := ctsO_cons rfl ct_X12_draw_1 (ctsO_cons rfl ct_X12_draw_4 (ctsO_cons rfl ct_X12_draw_5 (ctsO_cons rfl ct_X12_draw_3 (ctsO_cons rfl ct_X12_draw_2 (ctsO_cons rfl ct_X12_sellsNow_1 (ctsO_cons rfl ct_X12_cutsNow_1 (ctsO_cons rfl ct_X12_shortens_1 (ctsO_cons rfl ct_X12_passesThrough_0 (ctsO_nil)))))))))
theorem ct_X12_happens_0 : ctrO QQ CF ck_X12_happens_0 mX12_happens := chk_ok (Q := QQ) (QP := QPl) (C := CF) (c := ck_X12_happens_0) (G := cg_X12_happens_0) (X := xxX12) (M := mX12_happens) (t := tX12_happens) (anns := ca_X12_happens_0) 1 xx12 pl12 rfl kX12_happens qq_ok cx_X12_happens_0 cc_X12_happens_0
def ck_X12_decades_0 : AK := (14, [.inr (.inl [67]), .inl fr, .inl fr], [68, 91, 93], false, [([fr, fr], .inl (.negSucc 0, .negSucc 0), []), ([(.ofNat 0, .ofNat 9999), (.ofNat 1, .ofNat 30)], .inl fr, [])], [])
def cg_X12_decades_0 : List (Nat × AK) := [(116, ck_X12_in_9), (116, ck_X12_in_10), (405, ck_X12_keepsStep_1), (408, ck_X12_laysNow_0), (445, ck_X12_happens_0), (414, ck_X12_keepsNow_0)]
def ca_X12_decades_0 : List (Nat × AA) := [(73, [(.ofNat 0, .ofNat 0), (.ofNat 0, .ofNat 9999), (.ofNat 1, .ofNat 30), (.ofNat 0, .ofNat 30), (.ofNat 0, .ofNat 30312), (.ofNat 1, .ofNat 4), (.ofNat 1, .ofNat 4), (.ofNat 1, .ofNat 8)], [.inr (.inl [67]), .inl (1, .ofNat 0), .inl (2, .ofNat 0), .inl (3, .ofNat 0)], [], [(93, 68, 4, .ofNat 0), (68, 2, 5, .ofNat 0), (68, 1, 6, .ofNat 0), (68, 0, 7, .ofNat 0)], [(0, 3, 0), (2, 93, 68), (2, 68, 2), (2, 68, 1), (2, 68, 0)], (.ofNat 30, [.ofNat 0, .ofNat 0, .ofNat 0, .negSucc 0, .ofNat 0, .ofNat 0, .ofNat 0, .ofNat 0]))]
set_option maxRecDepth 100000 in
theorem cc_X12_decades_0 : aChk QPl CF ck_X12_decades_0 cg_X12_decades_0 xxX12 mX12_decades tX12_decades ca_X12_decades_0 [] 31 = true := by decide +kernel
theorem cx_X12_decades_0 : ctsO QQ CF xxX12 cg_X12_decades_0 := ctsO_cons rfl ct_X12_in_9 (ctsO_cons rfl ct_X12_in_10 (ctsO_cons rfl ct_X12_keepsStep_1 (ctsO_cons rfl ct_X12_laysNow_0 (ctsO_cons rfl ct_X12_happens_0 (ctsO_cons rfl ct_X12_keepsNow_0 (ctsO_nil))))))
theorem ct_X12_decades_0 : ctrO QQ CF ck_X12_decades_0 mX12_decades := chk_ok (Q := QQ) (QP := QPl) (C := CF) (c := ck_X12_decades_0) (G := cg_X12_decades_0) (X := xxX12) (M := mX12_decades) (t := tX12_decades) (anns := ca_X12_decades_0) 31 xx12 pl12 rfl kX12_decades qq_ok cx_X12_decades_0 cc_X12_decades_0
def ck_X12_hours_0 : AK := (13, [.inr (.inl [67]), .inl fr], [68, 91, 93], false, [([(.ofNat 1, .ofNat 2147483647)], .inl (.ofNat 0, .ofNat 0), []), ([fr], .inl (.ofNat 1, .ofNat 1), [])], [])
def cg_X12_hours_0 : List (Nat × AK) := [(448, ck_X12_hour_0)]
def ca_X12_hours_0 : List (Nat × AA) := [(2, [(.ofNat 0, .ofNat 0), fr, (.ofNat 0, .ofNat 2147483647)], [.inr (.inl [67]), .inl (1, .ofNat 0), .inl (2, .ofNat 0)], [], [], [(0, 2, 0)], (.ofNat 2147483647, [.ofNat 0, .ofNat 0, .negSucc 0]))]
set_option maxRecDepth 100000 in
theorem cc_X12_hours_0 : aChk QPl CF ck_X12_hours_0 cg_X12_hours_0 xxX12 mX12_hours tX12_hours ca_X12_hours_0 [] 2147483648 = true := by decide +kernel
theorem cx_X12_hours_0 : ctsO QQ CF xxX12 cg_X12_hours_0 := ctsO_cons rfl ct_X12_hour_0 (ctsO_nil)
theorem ct_X12_hours_0 : ctrO QQ CF ck_X12_hours_0 mX12_hours := chk_ok (Q := QQ) (QP := QPl) (C := CF) (c := ck_X12_hours_0) (G := cg_X12_hours_0) (X := xxX12) (M := mX12_hours) (t := tX12_hours) (anns := ca_X12_hours_0) 2147483648 xx12 pl12 rfl kX12_hours qq_ok cx_X12_hours_0 cc_X12_hours_0
def ck_X12_played_0 : AK := (21, [.inr (.inl [67]), .inl fr], [68, 91, 93], false, [([fr], .inl (.negSucc 1, .negSucc 1), []), ([(.ofNat 0, .ofNat 3)], .inl (.ofNat 0, .ofNat 23), []), ([(.ofNat 0, .ofNat 3)], .inl (.negSucc 0, .negSucc 0), [])], [])
def cg_X12_played_0 : List (Nat × AK) := [(116, ck_X12_in_0), (451, ck_X12_thing_0), (475, ck_X12_hours_0), (472, ck_X12_sell_0), (469, ck_X12_move_0), (466, ck_X12_use_0), (463, ck_X12_last_0), (460, ck_X12_cut_0), (457, ck_X12_barn_0), (454, ck_X12_reaper_0)]
def ca_X12_played_0 : List (Nat × AA) := [(21, [(.ofNat 0, .ofNat 0), (.ofNat 0, .ofNat 3), (.ofNat 0, .ofNat 24)], [.inr (.inl [67]), .inl (1, .ofNat 0), .inl (2, .ofNat 0), .inr (.inr 0), .inr (.inr 0), .inr (.inr 0), .inr (.inr 0), .inr (.inr 0)], [], [], [(0, 2, 0)], (.ofNat 24, [.ofNat 0, .ofNat 0, .negSucc 0]))]
set_option maxRecDepth 100000 in
theorem cc_X12_played_0 : aChk QPl CF ck_X12_played_0 cg_X12_played_0 xxX12 mX12_played tX12_played ca_X12_played_0 [] 25 = true := by decide +kernel
theorem cx_X12_played_0 : ctsO QQ CF xxX12 cg_X12_played_0 := ctsO_cons rfl ct_X12_in_0 (ctsO_cons rfl ct_X12_thing_0 (ctsO_cons rfl ct_X12_hours_0 (ctsO_cons rfl ct_X12_sell_0 (ctsO_cons rfl ct_X12_move_0 (ctsO_cons rfl ct_X12_use_0 (ctsO_cons rfl ct_X12_last_0 (ctsO_cons rfl ct_X12_cut_0 (ctsO_cons rfl ct_X12_barn_0 (ctsO_cons rfl ct_X12_reaper_0 (ctsO_nil))))))))))
theorem ct_X12_played_0 : ctrO QQ CF ck_X12_played_0 mX12_played := chk_ok (Q := QQ) (QP := QPl) (C := CF) (c := ck_X12_played_0) (G := cg_X12_played_0) (X := xxX12) (M := mX12_played) (t := tX12_played) (anns := ca_X12_played_0) 25 xx12 pl12 rfl kX12_played qq_ok cx_X12_played_0 cc_X12_played_0
def ck_X12_of_0 : AK := (10, [.inr (.inl [67]), .inl fr, .inl fr], [91, 93], false, [([(.ofNat 0, .ofNat 7), (.ofNat 0, .ofNat 3)], .inl fr, []), ([fr, fr], .inl (.negSucc 0, .negSucc 0), []), ([(.ofNat 0, .ofNat 7), (.ofNat 4, .ofNat 6)], .inl (.ofNat 0, .ofNat 999), [])], [])
def cg_X12_of_0 : List (Nat × AK) := [(421, ck_X12_isThing_0), (408, ck_X12_laysNow_0), (372, ck_X12_longOf_0), (381, ck_X12_mayCut_0), (396, ck_X12_growsOf_0)]
def ca_X12_of_0 : List (Nat × AA) := []
set_option maxRecDepth 100000 in
theorem cc_X12_of_0 : aChk QPl CF ck_X12_of_0 cg_X12_of_0 xxX12 mX12_of tX12_of ca_X12_of_0 [] 1 = true := by decide +kernel
theorem cx_X12_of_0 : ctsO QQ CF xxX12 cg_X12_of_0 := ctsO_cons rfl ct_X12_isThing_0 (ctsO_cons rfl ct_X12_laysNow_0 (ctsO_cons rfl ct_X12_longOf_0 (ctsO_cons rfl ct_X12_mayCut_0 (ctsO_cons rfl ct_X12_growsOf_0 (ctsO_nil)))))
theorem ct_X12_of_0 : ctrO QQ CF ck_X12_of_0 mX12_of := chk_ok (Q := QQ) (QP := QPl) (C := CF) (c := ck_X12_of_0) (G := cg_X12_of_0) (X := xxX12) (M := mX12_of) (t := tX12_of) (anns := ca_X12_of_0) 1 xx12 pl12 rfl kX12_of qq_ok cx_X12_of_0 cc_X12_of_0
def ck_X12_in_11 : AK := (1, [.inl fr, .inl (.ofNat 0, .ofNat 0), .inl (.ofNat 2, .ofNat 2)], [], false, [([(.ofNat 0, .ofNat 2), (.ofNat 0, .ofNat 0), (.ofNat 2, .ofNat 2)], .inl (.ofNat 1, .ofNat 1), []), ([fr, (.ofNat 0, .ofNat 0), (.ofNat 2, .ofNat 2)], .inl (.ofNat 0, .ofNat 0), [])], [])
def cg_X12_in_11 : List (Nat × AK) := []
def ca_X12_in_11 : List (Nat × AA) := []
set_option maxRecDepth 100000 in
theorem cc_X12_in_11 : aChk QPl CF ck_X12_in_11 cg_X12_in_11 xxX12 mX12_in tX12_in ca_X12_in_11 [] 1 = true := by decide +kernel
theorem cx_X12_in_11 : ctsO QQ CF xxX12 cg_X12_in_11 := ctsO_nil
theorem ct_X12_in_11 : ctrO QQ CF ck_X12_in_11 mX12_in := chk_ok (Q := QQ) (QP := QPl) (C := CF) (c := ck_X12_in_11) (G := cg_X12_in_11) (X := xxX12) (M := mX12_in) (t := tX12_in) (anns := ca_X12_in_11) 1 xx12 pl12 rfl kX12_in qq_ok cx_X12_in_11 cc_X12_in_11
def ck_X12_ofReaper_0 : AK := (3, [.inr (.inl [67]), .inl fr, .inl fr], [], false, [([(.ofNat 0, .ofNat 3), (.ofNat 0, .ofNat 2)], .inl fr, []), ([fr, fr], .inl (.negSucc 0, .negSucc 0), [])], [])
def cg_X12_ofReaper_0 : List (Nat × AK) := [(424, ck_X12_isReaper_0), (116, ck_X12_in_11)]
def ca_X12_ofReaper_0 : List (Nat × AA) := []
set_option maxRecDepth 100000 in
theorem cc_X12_ofReaper_0 : aChk QPl CF ck_X12_ofReaper_0 cg_X12_ofReaper_0 xxX12 mX12_ofReaper tX12_ofReaper ca_X12_ofReaper_0 [] 1 = true := by decide +kernel
theorem cx_X12_ofReaper_0 : ctsO QQ CF xxX12 cg_X12_ofReaper_0 := ctsO_cons rfl ct_X12_isReaper_0 (ctsO_cons rfl ct_X12_in_11 (ctsO_nil))
theorem ct_X12_ofReaper_0 : ctrO QQ CF ck_X12_ofReaper_0 mX12_ofReaper := chk_ok (Q := QQ) (QP := QPl) (C := CF) (c := ck_X12_ofReaper_0) (G := cg_X12_ofReaper_0) (X := xxX12) (M := mX12_ofReaper) (t := tX12_ofReaper) (anns := ca_X12_ofReaper_0) 1 xx12 pl12 rfl kX12_ofReaper qq_ok cx_X12_ofReaper_0 cc_X12_ofReaper_0
def ck_X12_bale_0 : AK := (10, [.inr (.inl [67]), .inl fr, .inl fr], [91, 93], false, [([(.ofNat 0, .ofNat 11), (.ofNat 0, .ofNat 3)], .inl fr, []), ([fr, fr], .inl (.negSucc 0, .negSucc 0), []), ([(.ofNat 0, .ofNat 11), (.ofNat 4, .ofNat 5)], .inl (.ofNat 0, .ofNat 9999), [])], [])
def cg_X12_bale_0 : List (Nat × AK) := [(436, ck_X12_isBale_0), (408, ck_X12_laysNow_0), (390, ck_X12_sellsOf_0), (399, ck_X12_spoilsOf_0)]
def ca_X12_bale_0 : List (Nat × AA) := []
set_option maxRecDepth 100000 in
theorem cc_X12_bale_0 : aChk QPl CF ck_X12_bale_0 cg_X12_bale_0 xxX12 mX12_bale tX12_bale ca_X12_bale_0 [] 1 = true := by decide +kernel
theorem cx_X12_bale_0 : ctsO QQ CF xxX12 cg_X12_bale_0 := ctsO_cons rfl ct_X12_isBale_0 (ctsO_cons rfl ct_X12_laysNow_0 (ctsO_cons rfl ct_X12_sellsOf_0 (ctsO_cons rfl ct_X12_spoilsOf_0 (ctsO_nil))))
theorem ct_X12_bale_0 : ctrO QQ CF ck_X12_bale_0 mX12_bale := chk_ok (Q := QQ) (QP := QPl) (C := CF) (c := ck_X12_bale_0) (G := cg_X12_bale_0) (X := xxX12) (M := mX12_bale) (t := tX12_bale) (anns := ca_X12_bale_0) 1 xx12 pl12 rfl kX12_bale qq_ok cx_X12_bale_0 cc_X12_bale_0
def ck_X12_in_12 : AK := (1, [.inl fr, .inl (.ofNat 0, .ofNat 0), .inl (.ofNat 1, .ofNat 1)], [], false, [([(.ofNat 0, .ofNat 1), (.ofNat 0, .ofNat 0), (.ofNat 1, .ofNat 1)], .inl (.ofNat 1, .ofNat 1), []), ([fr, (.ofNat 0, .ofNat 0), (.ofNat 1, .ofNat 1)], .inl (.ofNat 0, .ofNat 0), [])], [])
def cg_X12_in_12 : List (Nat × AK) := []
def ca_X12_in_12 : List (Nat × AA) := []
set_option maxRecDepth 100000 in
theorem cc_X12_in_12 : aChk QPl CF ck_X12_in_12 cg_X12_in_12 xxX12 mX12_in tX12_in ca_X12_in_12 [] 1 = true := by decide +kernel
theorem cx_X12_in_12 : ctsO QQ CF xxX12 cg_X12_in_12 := ctsO_nil
theorem ct_X12_in_12 : ctrO QQ CF ck_X12_in_12 mX12_in := chk_ok (Q := QQ) (QP := QPl) (C := CF) (c := ck_X12_in_12) (G := cg_X12_in_12) (X := xxX12) (M := mX12_in) (t := tX12_in) (anns := ca_X12_in_12) 1 xx12 pl12 rfl kX12_in qq_ok cx_X12_in_12 cc_X12_in_12
def ck_X12_ofBarn_0 : AK := (3, [.inr (.inl [67]), .inl fr, .inl fr], [93], false, [([(.ofNat 0, .ofNat 3), (.ofNat 0, .ofNat 1)], .inl fr, []), ([fr, fr], .inl (.negSucc 0, .negSucc 0), [])], [])
def cg_X12_ofBarn_0 : List (Nat × AK) := [(427, ck_X12_isBarn_0), (116, ck_X12_in_12), (408, ck_X12_laysNow_0), (369, ck_X12_feetIn_0)]
def ca_X12_ofBarn_0 : List (Nat × AA) := []
set_option maxRecDepth 100000 in
theorem cc_X12_ofBarn_0 : aChk QPl CF ck_X12_ofBarn_0 cg_X12_ofBarn_0 xxX12 mX12_ofBarn tX12_ofBarn ca_X12_ofBarn_0 [] 1 = true := by decide +kernel
theorem cx_X12_ofBarn_0 : ctsO QQ CF xxX12 cg_X12_ofBarn_0 := ctsO_cons rfl ct_X12_isBarn_0 (ctsO_cons rfl ct_X12_in_12 (ctsO_cons rfl ct_X12_laysNow_0 (ctsO_cons rfl ct_X12_feetIn_0 (ctsO_nil))))
theorem ct_X12_ofBarn_0 : ctrO QQ CF ck_X12_ofBarn_0 mX12_ofBarn := chk_ok (Q := QQ) (QP := QPl) (C := CF) (c := ck_X12_ofBarn_0) (G := cg_X12_ofBarn_0) (X := xxX12) (M := mX12_ofBarn) (t := tX12_ofBarn) (anns := ca_X12_ofBarn_0) 1 xx12 pl12 rfl kX12_ofBarn qq_ok cx_X12_ofBarn_0 cc_X12_ofBarn_0
def ck_X12_passesThrough_1 : AK := (12, [.inr (.inl [67]), .inl fr], [91, 93], false, [([fr], .inr (.inr 9), [(93, 68, fr)])], [(93, 68, fr)])
def cg_X12_passesThrough_1 : List (Nat × AK) := [(417, ck_X12_canPass_0), (411, ck_X12_hourPasses_0)]
def ca_X12_passesThrough_1 : List (Nat × AA) := [(2, [(.ofNat 0, .ofNat 0), fr, (.ofNat 0, .ofNat 2147483647)], [.inr (.inl [67]), .inl (1, .ofNat 0), .inl (2, .ofNat 0)], [], [], [(0, 2, 0)], (.ofNat 2147483647, [.ofNat 0, .ofNat 0, .negSucc 0]))]
set_option maxRecDepth 100000 in
theorem cc_X12_passesThrough_1 : aChk QPl CF ck_X12_passesThrough_1 cg_X12_passesThrough_1 xxX12 mX12_passesThrough tX12_passesThrough ca_X12_passesThrough_1 [] 2147483648 = true := by decide +kernel
theorem cx_X12_passesThrough_1 : ctsO QQ CF xxX12 cg_X12_passesThrough_1 := ctsO_cons rfl ct_X12_canPass_0 (ctsO_cons rfl ct_X12_hourPasses_0 (ctsO_nil))
theorem ct_X12_passesThrough_1 : ctrO QQ CF ck_X12_passesThrough_1 mX12_passesThrough := chk_ok (Q := QQ) (QP := QPl) (C := CF) (c := ck_X12_passesThrough_1) (G := cg_X12_passesThrough_1) (X := xxX12) (M := mX12_passesThrough) (t := tX12_passesThrough) (anns := ca_X12_passesThrough_1) 2147483648 xx12 pl12 rfl kX12_passesThrough qq_ok cx_X12_passesThrough_1 cc_X12_passesThrough_1
def ck_X12_foretold_0 : AK := (13, [.inr (.inl [67]), .inl fr, .inl fr], [91, 93], false, [([(.ofNat 1, .ofNat 60), (.ofNat 0, .ofNat 7)], .inl fr, []), ([fr, fr], .inl (.negSucc 0, .negSucc 0), [])], [])
def cg_X12_foretold_0 : List (Nat × AK) := [(116, ck_X12_in_7), (421, ck_X12_isThing_0), (408, ck_X12_laysNow_0), (442, ck_X12_passesThrough_1)]
def ca_X12_foretold_0 : List (Nat × AA) := []
set_option maxRecDepth 100000 in
theorem cc_X12_foretold_0 : aChk QPl CF ck_X12_foretold_0 cg_X12_foretold_0 xxX12 mX12_foretold tX12_foretold ca_X12_foretold_0 [] 1 = true := by decide +kernel
theorem cx_X12_foretold_0 : ctsO QQ CF xxX12 cg_X12_foretold_0 := ctsO_cons rfl ct_X12_in_7 (ctsO_cons rfl ct_X12_isThing_0 (ctsO_cons rfl ct_X12_laysNow_0 (ctsO_cons rfl ct_X12_passesThrough_1 (ctsO_nil))))
theorem ct_X12_foretold_0 : ctrO QQ CF ck_X12_foretold_0 mX12_foretold := chk_ok (Q := QQ) (QP := QPl) (C := CF) (c := ck_X12_foretold_0) (G := cg_X12_foretold_0) (X := xxX12) (M := mX12_foretold) (t := tX12_foretold) (anns := ca_X12_foretold_0) 1 xx12 pl12 rfl kX12_foretold qq_ok cx_X12_foretold_0 cc_X12_foretold_0
def ck_X12_stored_0 : AK := (13, [.inr (.inl [67]), .inl fr, .inl fr], [91, 93], false, [([(.ofNat 1, .ofNat 60), (.ofNat 0, .ofNat 3)], .inl fr, []), ([fr, fr], .inl (.negSucc 0, .negSucc 0), [])], [])
def cg_X12_stored_0 : List (Nat × AK) := [(116, ck_X12_in_7), (427, ck_X12_isBarn_0), (408, ck_X12_laysNow_0), (442, ck_X12_passesThrough_1), (369, ck_X12_feetIn_0)]
def ca_X12_stored_0 : List (Nat × AA) := []
set_option maxRecDepth 100000 in
theorem cc_X12_stored_0 : aChk QPl CF ck_X12_stored_0 cg_X12_stored_0 xxX12 mX12_stored tX12_stored ca_X12_stored_0 [] 1 = true := by decide +kernel
theorem cx_X12_stored_0 : ctsO QQ CF xxX12 cg_X12_stored_0 := ctsO_cons rfl ct_X12_in_7 (ctsO_cons rfl ct_X12_isBarn_0 (ctsO_cons rfl ct_X12_laysNow_0 (ctsO_cons rfl ct_X12_passesThrough_1 (ctsO_cons rfl ct_X12_feetIn_0 (ctsO_nil)))))
theorem ct_X12_stored_0 : ctrO QQ CF ck_X12_stored_0 mX12_stored := chk_ok (Q := QQ) (QP := QPl) (C := CF) (c := ck_X12_stored_0) (G := cg_X12_stored_0) (X := xxX12) (M := mX12_stored) (t := tX12_stored) (anns := ca_X12_stored_0) 1 xx12 pl12 rfl kX12_stored qq_ok cx_X12_stored_0 cc_X12_stored_0
def ck_X12_in_13 : AK := (1, [.inl fr, .inl (.ofNat 1, .ofNat 1), .inl (.ofNat 4, .ofNat 4)], [], false, [([(.ofNat 1, .ofNat 4), (.ofNat 1, .ofNat 1), (.ofNat 4, .ofNat 4)], .inl (.ofNat 1, .ofNat 1), []), ([fr, (.ofNat 1, .ofNat 1), (.ofNat 4, .ofNat 4)], .inl (.ofNat 0, .ofNat 0), [])], [])
def cg_X12_in_13 : List (Nat × AK) := []
def ca_X12_in_13 : List (Nat × AA) := []
set_option maxRecDepth 100000 in
theorem cc_X12_in_13 : aChk QPl CF ck_X12_in_13 cg_X12_in_13 xxX12 mX12_in tX12_in ca_X12_in_13 [] 1 = true := by decide +kernel
theorem cx_X12_in_13 : ctsO QQ CF xxX12 cg_X12_in_13 := ctsO_nil
theorem ct_X12_in_13 : ctrO QQ CF ck_X12_in_13 mX12_in := chk_ok (Q := QQ) (QP := QPl) (C := CF) (c := ck_X12_in_13) (G := cg_X12_in_13) (X := xxX12) (M := mX12_in) (t := tX12_in) (anns := ca_X12_in_13) 1 xx12 pl12 rfl kX12_in qq_ok cx_X12_in_13 cc_X12_in_13
def ck_X12_in_14 : AK := (1, [.inl fr, .inl (.negSucc 0, .negSucc 0), .inl (.ofNat 0, .ofNat 3)], [], false, [([(.negSucc 0, .ofNat 3), (.negSucc 0, .negSucc 0), (.ofNat 0, .ofNat 3)], .inl (.ofNat 1, .ofNat 1), []), ([fr, (.negSucc 0, .negSucc 0), (.ofNat 0, .ofNat 3)], .inl (.ofNat 0, .ofNat 0), [])], [])
def cg_X12_in_14 : List (Nat × AK) := []
def ca_X12_in_14 : List (Nat × AA) := []
set_option maxRecDepth 100000 in
theorem cc_X12_in_14 : aChk QPl CF ck_X12_in_14 cg_X12_in_14 xxX12 mX12_in tX12_in ca_X12_in_14 [] 1 = true := by decide +kernel
theorem cx_X12_in_14 : ctsO QQ CF xxX12 cg_X12_in_14 := ctsO_nil
theorem ct_X12_in_14 : ctrO QQ CF ck_X12_in_14 mX12_in := chk_ok (Q := QQ) (QP := QPl) (C := CF) (c := ck_X12_in_14) (G := cg_X12_in_14) (X := xxX12) (M := mX12_in) (t := tX12_in) (anns := ca_X12_in_14) 1 xx12 pl12 rfl kX12_in qq_ok cx_X12_in_14 cc_X12_in_14
def ck_X12_laysCuts_0 : AK := (1, [.inr (.inl [67]), .inl (.ofNat 0, .ofNat 0), .inl (.ofNat 1, .ofNat 2)], [94], false, [([(.ofNat 0, .ofNat 0), (.ofNat 1, .ofNat 2)], .inr (.inr 9), [])], [])
def cg_X12_laysCuts_0 : List (Nat × AK) := []
def ca_X12_laysCuts_0 : List (Nat × AA) := [(7, [(.ofNat 0, .ofNat 0), (.ofNat 0, .ofNat 0), (.ofNat 1, .ofNat 2), (.negSucc 0, .ofNat 1), (.ofNat 0, .ofNat 0)], [.inr (.inl [67]), .inl (1, .ofNat 0), .inl (2, .ofNat 0), .inl (4, .ofNat 0), .inl (3, .ofNat 0)], [], [], [(0, 4, 0), (0, 3, 0)], (.ofNat 1, [.ofNat 0, .ofNat 0, .ofNat 0, .ofNat 1, .ofNat 0]))]
set_option maxRecDepth 100000 in
theorem cc_X12_laysCuts_0 : aChk QPl CF ck_X12_laysCuts_0 cg_X12_laysCuts_0 xxX12 mX12_laysCuts tX12_laysCuts ca_X12_laysCuts_0 [] 3 = true := by decide +kernel
theorem cx_X12_laysCuts_0 : ctsO QQ CF xxX12 cg_X12_laysCuts_0 := ctsO_nil
theorem ct_X12_laysCuts_0 : ctrO QQ CF ck_X12_laysCuts_0 mX12_laysCuts := chk_ok (Q := QQ) (QP := QPl) (C := CF) (c := ck_X12_laysCuts_0) (G := cg_X12_laysCuts_0) (X := xxX12) (M := mX12_laysCuts) (t := tX12_laysCuts) (anns := ca_X12_laysCuts_0) 3 xx12 pl12 rfl kX12_laysCuts qq_ok cx_X12_laysCuts_0 cc_X12_laysCuts_0
def ck_X12_broughtBy_0 : AK := (13, [.inr (.inl [67]), .inl (.ofNat 0, .ofNat 3), .inl (.ofNat 0, .ofNat 3), .inl (.ofNat 1, .ofNat 2)], [91, 93], false, [([(.ofNat 0, .ofNat 3), (.ofNat 0, .ofNat 3), (.ofNat 1, .ofNat 2)], .inl (.ofNat 0, .ofNat 0), []), ([(.ofNat 0, .ofNat 3), (.ofNat 0, .ofNat 3), (.ofNat 1, .ofNat 2)], .inl fr, [])], [])
def cg_X12_broughtBy_0 : List (Nat × AK) := [(408, ck_X12_laysNow_0), (442, ck_X12_passesThrough_1), (430, ck_X12_cutsNow_0)]
def ca_X12_broughtBy_0 : List (Nat × AA) := []
set_option maxRecDepth 100000 in
theorem cc_X12_broughtBy_0 : aChk QPl CF ck_X12_broughtBy_0 cg_X12_broughtBy_0 xxX12 mX12_broughtBy tX12_broughtBy ca_X12_broughtBy_0 [] 1 = true := by decide +kernel
theorem cx_X12_broughtBy_0 : ctsO QQ CF xxX12 cg_X12_broughtBy_0 := ctsO_cons rfl ct_X12_laysNow_0 (ctsO_cons rfl ct_X12_passesThrough_1 (ctsO_cons rfl ct_X12_cutsNow_0 (ctsO_nil)))
theorem ct_X12_broughtBy_0 : ctrO QQ CF ck_X12_broughtBy_0 mX12_broughtBy := chk_ok (Q := QQ) (QP := QPl) (C := CF) (c := ck_X12_broughtBy_0) (G := cg_X12_broughtBy_0) (X := xxX12) (M := mX12_broughtBy) (t := tX12_broughtBy) (anns := ca_X12_broughtBy_0) 1 xx12 pl12 rfl kX12_broughtBy qq_ok cx_X12_broughtBy_0 cc_X12_broughtBy_0
def ck_X12_laysCuts_1 : AK := (1, [.inr (.inl [67]), .inl (.ofNat 0, .ofNat 1), .inl (.ofNat 1, .ofNat 3)], [94], false, [([(.ofNat 0, .ofNat 1), (.ofNat 1, .ofNat 3)], .inr (.inr 9), [])], [])
def cg_X12_laysCuts_1 : List (Nat × AK) := []
def ca_X12_laysCuts_1 : List (Nat × AA) := [(7, [(.ofNat 0, .ofNat 0), (.ofNat 0, .ofNat 1), (.ofNat 1, .ofNat 3), (.negSucc 0, .ofNat 2), (.ofNat 0, .ofNat 1)], [.inr (.inl [67]), .inl (1, .ofNat 0), .inl (2, .ofNat 0), .inl (4, .ofNat 0), .inl (3, .ofNat 0)], [], [], [(0, 4, 0), (0, 3, 0)], (.ofNat 1, [.ofNat 0, .ofNat 0, .ofNat 0, .ofNat 1, .ofNat 0]))]
set_option maxRecDepth 100000 in
theorem cc_X12_laysCuts_1 : aChk QPl CF ck_X12_laysCuts_1 cg_X12_laysCuts_1 xxX12 mX12_laysCuts tX12_laysCuts ca_X12_laysCuts_1 [] 4 = true := by decide +kernel
theorem cx_X12_laysCuts_1 : ctsO QQ CF xxX12 cg_X12_laysCuts_1 := ctsO_nil
theorem ct_X12_laysCuts_1 : ctrO QQ CF ck_X12_laysCuts_1 mX12_laysCuts := chk_ok (Q := QQ) (QP := QPl) (C := CF) (c := ck_X12_laysCuts_1) (G := cg_X12_laysCuts_1) (X := xxX12) (M := mX12_laysCuts) (t := tX12_laysCuts) (anns := ca_X12_laysCuts_1) 4 xx12 pl12 rfl kX12_laysCuts qq_ok cx_X12_laysCuts_1 cc_X12_laysCuts_1
def ck_X12_broughtBy_1 : AK := (13, [.inr (.inl [67]), .inl (.ofNat 0, .ofNat 3), .inl (.ofNat 0, .ofNat 3), .inl (.ofNat 1, .ofNat 3)], [91, 93], false, [([(.ofNat 0, .ofNat 3), (.ofNat 0, .ofNat 3), (.ofNat 1, .ofNat 3)], .inl (.ofNat 0, .ofNat 0), []), ([(.ofNat 0, .ofNat 3), (.ofNat 0, .ofNat 3), (.ofNat 1, .ofNat 3)], .inl fr, [])], [])
def cg_X12_broughtBy_1 : List (Nat × AK) := [(408, ck_X12_laysNow_0), (442, ck_X12_passesThrough_1), (430, ck_X12_cutsNow_0)]
def ca_X12_broughtBy_1 : List (Nat × AA) := []
set_option maxRecDepth 100000 in
theorem cc_X12_broughtBy_1 : aChk QPl CF ck_X12_broughtBy_1 cg_X12_broughtBy_1 xxX12 mX12_broughtBy tX12_broughtBy ca_X12_broughtBy_1 [] 1 = true := by decide +kernel
theorem cx_X12_broughtBy_1 : ctsO QQ CF xxX12 cg_X12_broughtBy_1 := ctsO_cons rfl ct_X12_laysNow_0 (ctsO_cons rfl ct_X12_passesThrough_1 (ctsO_cons rfl ct_X12_cutsNow_0 (ctsO_nil)))
theorem ct_X12_broughtBy_1 : ctrO QQ CF ck_X12_broughtBy_1 mX12_broughtBy := chk_ok (Q := QQ) (QP := QPl) (C := CF) (c := ck_X12_broughtBy_1) (G := cg_X12_broughtBy_1) (X := xxX12) (M := mX12_broughtBy) (t := tX12_broughtBy) (anns := ca_X12_broughtBy_1) 1 xx12 pl12 rfl kX12_broughtBy qq_ok cx_X12_broughtBy_1 cc_X12_broughtBy_1
def ck_X12_laysCuts_2 : AK := (1, [.inr (.inl [67]), .inl (.ofNat 0, .ofNat 2), .inl (.ofNat 1, .ofNat 4)], [94], false, [([(.ofNat 0, .ofNat 2), (.ofNat 1, .ofNat 4)], .inr (.inr 9), [])], [])
def cg_X12_laysCuts_2 : List (Nat × AK) := []
def ca_X12_laysCuts_2 : List (Nat × AA) := [(7, [(.ofNat 0, .ofNat 0), (.ofNat 0, .ofNat 2), (.ofNat 1, .ofNat 4), (.negSucc 0, .ofNat 3), (.ofNat 0, .ofNat 2)], [.inr (.inl [67]), .inl (1, .ofNat 0), .inl (2, .ofNat 0), .inl (4, .ofNat 0), .inl (3, .ofNat 0)], [], [], [(0, 4, 0), (0, 3, 0)], (.ofNat 1, [.ofNat 0, .ofNat 0, .ofNat 0, .ofNat 1, .ofNat 0]))]
set_option maxRecDepth 100000 in
theorem cc_X12_laysCuts_2 : aChk QPl CF ck_X12_laysCuts_2 cg_X12_laysCuts_2 xxX12 mX12_laysCuts tX12_laysCuts ca_X12_laysCuts_2 [] 5 = true := by decide +kernel
theorem cx_X12_laysCuts_2 : ctsO QQ CF xxX12 cg_X12_laysCuts_2 := ctsO_nil
theorem ct_X12_laysCuts_2 : ctrO QQ CF ck_X12_laysCuts_2 mX12_laysCuts := chk_ok (Q := QQ) (QP := QPl) (C := CF) (c := ck_X12_laysCuts_2) (G := cg_X12_laysCuts_2) (X := xxX12) (M := mX12_laysCuts) (t := tX12_laysCuts) (anns := ca_X12_laysCuts_2) 5 xx12 pl12 rfl kX12_laysCuts qq_ok cx_X12_laysCuts_2 cc_X12_laysCuts_2
def ck_X12_broughtBy_2 : AK := (13, [.inr (.inl [67]), .inl (.ofNat 0, .ofNat 3), .inl (.ofNat 0, .ofNat 3), .inl (.ofNat 1, .ofNat 4)], [91, 93], false, [([(.ofNat 0, .ofNat 3), (.ofNat 0, .ofNat 3), (.ofNat 1, .ofNat 4)], .inl (.ofNat 0, .ofNat 0), []), ([(.ofNat 0, .ofNat 3), (.ofNat 0, .ofNat 3), (.ofNat 1, .ofNat 4)], .inl fr, [])], [])
def cg_X12_broughtBy_2 : List (Nat × AK) := [(408, ck_X12_laysNow_0), (442, ck_X12_passesThrough_1), (430, ck_X12_cutsNow_0)]
def ca_X12_broughtBy_2 : List (Nat × AA) := []
set_option maxRecDepth 100000 in
theorem cc_X12_broughtBy_2 : aChk QPl CF ck_X12_broughtBy_2 cg_X12_broughtBy_2 xxX12 mX12_broughtBy tX12_broughtBy ca_X12_broughtBy_2 [] 1 = true := by decide +kernel
theorem cx_X12_broughtBy_2 : ctsO QQ CF xxX12 cg_X12_broughtBy_2 := ctsO_cons rfl ct_X12_laysNow_0 (ctsO_cons rfl ct_X12_passesThrough_1 (ctsO_cons rfl ct_X12_cutsNow_0 (ctsO_nil)))
theorem ct_X12_broughtBy_2 : ctrO QQ CF ck_X12_broughtBy_2 mX12_broughtBy := chk_ok (Q := QQ) (QP := QPl) (C := CF) (c := ck_X12_broughtBy_2) (G := cg_X12_broughtBy_2) (X := xxX12) (M := mX12_broughtBy) (t := tX12_broughtBy) (anns := ca_X12_broughtBy_2) 1 xx12 pl12 rfl kX12_broughtBy qq_ok cx_X12_broughtBy_2 cc_X12_broughtBy_2
def ck_X12_laysCuts_3 : AK := (1, [.inr (.inl [67]), .inl (.ofNat 0, .ofNat 3), .inl (.ofNat 1, .ofNat 4)], [94], false, [([(.ofNat 0, .ofNat 3), (.ofNat 1, .ofNat 4)], .inr (.inr 9), [])], [])
def cg_X12_laysCuts_3 : List (Nat × AK) := []
def ca_X12_laysCuts_3 : List (Nat × AA) := [(7, [(.ofNat 0, .ofNat 0), (.ofNat 0, .ofNat 3), (.ofNat 1, .ofNat 4), (.negSucc 0, .ofNat 3), (.ofNat 0, .ofNat 3)], [.inr (.inl [67]), .inl (1, .ofNat 0), .inl (2, .ofNat 0), .inl (4, .ofNat 0), .inl (3, .ofNat 0)], [], [], [(0, 4, 0), (0, 3, 0)], (.ofNat 1, [.ofNat 0, .ofNat 0, .ofNat 0, .ofNat 1, .ofNat 0]))]
set_option maxRecDepth 100000 in
theorem cc_X12_laysCuts_3 : aChk QPl CF ck_X12_laysCuts_3 cg_X12_laysCuts_3 xxX12 mX12_laysCuts tX12_laysCuts ca_X12_laysCuts_3 [] 5 = true := by decide +kernel
theorem cx_X12_laysCuts_3 : ctsO QQ CF xxX12 cg_X12_laysCuts_3 := ctsO_nil
theorem ct_X12_laysCuts_3 : ctrO QQ CF ck_X12_laysCuts_3 mX12_laysCuts := chk_ok (Q := QQ) (QP := QPl) (C := CF) (c := ck_X12_laysCuts_3) (G := cg_X12_laysCuts_3) (X := xxX12) (M := mX12_laysCuts) (t := tX12_laysCuts) (anns := ca_X12_laysCuts_3) 5 xx12 pl12 rfl kX12_laysCuts qq_ok cx_X12_laysCuts_3 cc_X12_laysCuts_3
def ck_X12_laysCuts_4 : AK := (1, [.inr (.inl [67]), .inl (.ofNat 0, .ofNat 4), .inl (.ofNat 1, .ofNat 4)], [94], false, [([(.ofNat 0, .ofNat 4), (.ofNat 1, .ofNat 4)], .inr (.inr 9), [])], [])
def cg_X12_laysCuts_4 : List (Nat × AK) := []
def ca_X12_laysCuts_4 : List (Nat × AA) := [(7, [(.ofNat 0, .ofNat 0), (.ofNat 0, .ofNat 4), (.ofNat 1, .ofNat 4), (.negSucc 0, .ofNat 3), (.ofNat 0, .ofNat 4)], [.inr (.inl [67]), .inl (1, .ofNat 0), .inl (2, .ofNat 0), .inl (4, .ofNat 0), .inl (3, .ofNat 0)], [], [], [(0, 4, 0), (0, 3, 0)], (.ofNat 1, [.ofNat 0, .ofNat 0, .ofNat 0, .ofNat 1, .ofNat 0]))]
set_option maxRecDepth 100000 in
theorem cc_X12_laysCuts_4 : aChk QPl CF ck_X12_laysCuts_4 cg_X12_laysCuts_4 xxX12 mX12_laysCuts tX12_laysCuts ca_X12_laysCuts_4 [] 5 = true := by decide +kernel
theorem cx_X12_laysCuts_4 : ctsO QQ CF xxX12 cg_X12_laysCuts_4 := ctsO_nil
theorem ct_X12_laysCuts_4 : ctrO QQ CF ck_X12_laysCuts_4 mX12_laysCuts := chk_ok (Q := QQ) (QP := QPl) (C := CF) (c := ck_X12_laysCuts_4) (G := cg_X12_laysCuts_4) (X := xxX12) (M := mX12_laysCuts) (t := tX12_laysCuts) (anns := ca_X12_laysCuts_4) 5 xx12 pl12 rfl kX12_laysCuts qq_ok cx_X12_laysCuts_4 cc_X12_laysCuts_4
def ck_X12_laysCuts_5 : AK := (1, [.inr (.inl [67]), .inl (.ofNat 0, .ofNat 5), .inl (.ofNat 1, .ofNat 4)], [94], false, [([(.ofNat 0, .ofNat 5), (.ofNat 1, .ofNat 4)], .inr (.inr 9), [])], [])
def cg_X12_laysCuts_5 : List (Nat × AK) := []
def ca_X12_laysCuts_5 : List (Nat × AA) := [(7, [(.ofNat 0, .ofNat 0), (.ofNat 0, .ofNat 5), (.ofNat 1, .ofNat 4), (.negSucc 0, .ofNat 3), (.ofNat 0, .ofNat 5)], [.inr (.inl [67]), .inl (1, .ofNat 0), .inl (2, .ofNat 0), .inl (4, .ofNat 0), .inl (3, .ofNat 0)], [], [], [(0, 4, 0), (0, 3, 0)], (.ofNat 1, [.ofNat 0, .ofNat 0, .ofNat 0, .ofNat 1, .ofNat 0]))]
set_option maxRecDepth 100000 in
theorem cc_X12_laysCuts_5 : aChk QPl CF ck_X12_laysCuts_5 cg_X12_laysCuts_5 xxX12 mX12_laysCuts tX12_laysCuts ca_X12_laysCuts_5 [] 5 = true := by decide +kernel
theorem cx_X12_laysCuts_5 : ctsO QQ CF xxX12 cg_X12_laysCuts_5 := ctsO_nil
theorem ct_X12_laysCuts_5 : ctrO QQ CF ck_X12_laysCuts_5 mX12_laysCuts := chk_ok (Q := QQ) (QP := QPl) (C := CF) (c := ck_X12_laysCuts_5) (G := cg_X12_laysCuts_5) (X := xxX12) (M := mX12_laysCuts) (t := tX12_laysCuts) (anns := ca_X12_laysCuts_5) 5 xx12 pl12 rfl kX12_laysCuts qq_ok cx_X12_laysCuts_5 cc_X12_laysCuts_5
def ck_X12_laysCuts_6 : AK := (1, [.inr (.inl [67]), .inl (.ofNat 0, .ofNat 6), .inl (.ofNat 1, .ofNat 4)], [94], false, [([(.ofNat 0, .ofNat 6), (.ofNat 1, .ofNat 4)], .inr (.inr 9), [])], [])
def cg_X12_laysCuts_6 : List (Nat × AK) := []
def ca_X12_laysCuts_6 : List (Nat × AA) := [(7, [(.ofNat 0, .ofNat 0), (.ofNat 0, .ofNat 6), (.ofNat 1, .ofNat 4), (.negSucc 0, .ofNat 3), (.ofNat 0, .ofNat 6)], [.inr (.inl [67]), .inl (1, .ofNat 0), .inl (2, .ofNat 0), .inl (4, .ofNat 0), .inl (3, .ofNat 0)], [], [], [(0, 4, 0), (0, 3, 0)], (.ofNat 1, [.ofNat 0, .ofNat 0, .ofNat 0, .ofNat 1, .ofNat 0]))]
set_option maxRecDepth 100000 in
theorem cc_X12_laysCuts_6 : aChk QPl CF ck_X12_laysCuts_6 cg_X12_laysCuts_6 xxX12 mX12_laysCuts tX12_laysCuts ca_X12_laysCuts_6 [] 5 = true := by decide +kernel
theorem cx_X12_laysCuts_6 : ctsO QQ CF xxX12 cg_X12_laysCuts_6 := ctsO_nil
theorem ct_X12_laysCuts_6 : ctrO QQ CF ck_X12_laysCuts_6 mX12_laysCuts := chk_ok (Q := QQ) (QP := QPl) (C := CF) (c := ck_X12_laysCuts_6) (G := cg_X12_laysCuts_6) (X := xxX12) (M := mX12_laysCuts) (t := tX12_laysCuts) (anns := ca_X12_laysCuts_6) 5 xx12 pl12 rfl kX12_laysCuts qq_ok cx_X12_laysCuts_6 cc_X12_laysCuts_6
def ck_X12_laysCuts_7 : AK := (1, [.inr (.inl [67]), .inl (.ofNat 0, .ofNat 7), .inl (.ofNat 1, .ofNat 4)], [94], false, [([(.ofNat 0, .ofNat 7), (.ofNat 1, .ofNat 4)], .inr (.inr 9), [])], [])
def cg_X12_laysCuts_7 : List (Nat × AK) := []
def ca_X12_laysCuts_7 : List (Nat × AA) := [(7, [(.ofNat 0, .ofNat 0), (.ofNat 0, .ofNat 7), (.ofNat 1, .ofNat 4), (.negSucc 0, .ofNat 3), (.ofNat 0, .ofNat 7)], [.inr (.inl [67]), .inl (1, .ofNat 0), .inl (2, .ofNat 0), .inl (4, .ofNat 0), .inl (3, .ofNat 0)], [], [], [(0, 4, 0), (0, 3, 0)], (.ofNat 1, [.ofNat 0, .ofNat 0, .ofNat 0, .ofNat 1, .ofNat 0]))]
set_option maxRecDepth 100000 in
theorem cc_X12_laysCuts_7 : aChk QPl CF ck_X12_laysCuts_7 cg_X12_laysCuts_7 xxX12 mX12_laysCuts tX12_laysCuts ca_X12_laysCuts_7 [] 5 = true := by decide +kernel
theorem cx_X12_laysCuts_7 : ctsO QQ CF xxX12 cg_X12_laysCuts_7 := ctsO_nil
theorem ct_X12_laysCuts_7 : ctrO QQ CF ck_X12_laysCuts_7 mX12_laysCuts := chk_ok (Q := QQ) (QP := QPl) (C := CF) (c := ck_X12_laysCuts_7) (G := cg_X12_laysCuts_7) (X := xxX12) (M := mX12_laysCuts) (t := tX12_laysCuts) (anns := ca_X12_laysCuts_7) 5 xx12 pl12 rfl kX12_laysCuts qq_ok cx_X12_laysCuts_7 cc_X12_laysCuts_7
def ck_X12_laysCuts_8 : AK := (1, [.inr (.inl [67]), .inl (.ofNat 0, .ofNat 8), .inl (.ofNat 1, .ofNat 4)], [94], false, [([(.ofNat 0, .ofNat 8), (.ofNat 1, .ofNat 4)], .inr (.inr 9), [])], [])
def cg_X12_laysCuts_8 : List (Nat × AK) := []
def ca_X12_laysCuts_8 : List (Nat × AA) := [(7, [(.ofNat 0, .ofNat 0), (.ofNat 0, .ofNat 8), (.ofNat 1, .ofNat 4), (.negSucc 0, .ofNat 3), (.ofNat 0, .ofNat 8)], [.inr (.inl [67]), .inl (1, .ofNat 0), .inl (2, .ofNat 0), .inl (4, .ofNat 0), .inl (3, .ofNat 0)], [], [], [(0, 4, 0), (0, 3, 0)], (.ofNat 1, [.ofNat 0, .ofNat 0, .ofNat 0, .ofNat 1, .ofNat 0]))]
set_option maxRecDepth 100000 in
theorem cc_X12_laysCuts_8 : aChk QPl CF ck_X12_laysCuts_8 cg_X12_laysCuts_8 xxX12 mX12_laysCuts tX12_laysCuts ca_X12_laysCuts_8 [] 5 = true := by decide +kernel
theorem cx_X12_laysCuts_8 : ctsO QQ CF xxX12 cg_X12_laysCuts_8 := ctsO_nil
theorem ct_X12_laysCuts_8 : ctrO QQ CF ck_X12_laysCuts_8 mX12_laysCuts := chk_ok (Q := QQ) (QP := QPl) (C := CF) (c := ck_X12_laysCuts_8) (G := cg_X12_laysCuts_8) (X := xxX12) (M := mX12_laysCuts) (t := tX12_laysCuts) (anns := ca_X12_laysCuts_8) 5 xx12 pl12 rfl kX12_laysCuts qq_ok cx_X12_laysCuts_8 cc_X12_laysCuts_8
def ck_X12_laysCuts_9 : AK := (1, [.inr (.inl [67]), .inl (.ofNat 0, .ofNat 10), .inl (.ofNat 1, .ofNat 4)], [94], false, [([(.ofNat 0, .ofNat 10), (.ofNat 1, .ofNat 4)], .inr (.inr 9), [])], [])
def cg_X12_laysCuts_9 : List (Nat × AK) := []
def ca_X12_laysCuts_9 : List (Nat × AA) := [(7, [(.ofNat 0, .ofNat 0), (.ofNat 0, .ofNat 10), (.ofNat 1, .ofNat 4), (.negSucc 0, .ofNat 3), (.ofNat 0, .ofNat 10)], [.inr (.inl [67]), .inl (1, .ofNat 0), .inl (2, .ofNat 0), .inl (4, .ofNat 0), .inl (3, .ofNat 0)], [], [], [(0, 4, 0), (0, 3, 0)], (.ofNat 1, [.ofNat 0, .ofNat 0, .ofNat 0, .ofNat 1, .ofNat 0]))]
set_option maxRecDepth 100000 in
theorem cc_X12_laysCuts_9 : aChk QPl CF ck_X12_laysCuts_9 cg_X12_laysCuts_9 xxX12 mX12_laysCuts tX12_laysCuts ca_X12_laysCuts_9 [] 5 = true := by decide +kernel
theorem cx_X12_laysCuts_9 : ctsO QQ CF xxX12 cg_X12_laysCuts_9 := ctsO_nil
theorem ct_X12_laysCuts_9 : ctrO QQ CF ck_X12_laysCuts_9 mX12_laysCuts := chk_ok (Q := QQ) (QP := QPl) (C := CF) (c := ck_X12_laysCuts_9) (G := cg_X12_laysCuts_9) (X := xxX12) (M := mX12_laysCuts) (t := tX12_laysCuts) (anns := ca_X12_laysCuts_9) 5 xx12 pl12 rfl kX12_laysCuts qq_ok cx_X12_laysCuts_9 cc_X12_laysCuts_9
def ck_X12_laysCuts_10 : AK := (1, [.inr (.inl [67]), .inl (.ofNat 0, .ofNat 11), .inl (.ofNat 1, .ofNat 4)], [94], false, [([(.ofNat 0, .ofNat 11), (.ofNat 1, .ofNat 4)], .inr (.inr 9), [])], [])
def cg_X12_laysCuts_10 : List (Nat × AK) := []
def ca_X12_laysCuts_10 : List (Nat × AA) := [(7, [(.ofNat 0, .ofNat 0), (.ofNat 0, .ofNat 11), (.ofNat 1, .ofNat 4), (.negSucc 0, .ofNat 3), (.ofNat 0, .ofNat 11)], [.inr (.inl [67]), .inl (1, .ofNat 0), .inl (2, .ofNat 0), .inl (4, .ofNat 0), .inl (3, .ofNat 0)], [], [], [(0, 4, 0), (0, 3, 0)], (.ofNat 1, [.ofNat 0, .ofNat 0, .ofNat 0, .ofNat 1, .ofNat 0]))]
set_option maxRecDepth 100000 in
theorem cc_X12_laysCuts_10 : aChk QPl CF ck_X12_laysCuts_10 cg_X12_laysCuts_10 xxX12 mX12_laysCuts tX12_laysCuts ca_X12_laysCuts_10 [] 5 = true := by decide +kernel
theorem cx_X12_laysCuts_10 : ctsO QQ CF xxX12 cg_X12_laysCuts_10 := ctsO_nil
theorem ct_X12_laysCuts_10 : ctrO QQ CF ck_X12_laysCuts_10 mX12_laysCuts := chk_ok (Q := QQ) (QP := QPl) (C := CF) (c := ck_X12_laysCuts_10) (G := cg_X12_laysCuts_10) (X := xxX12) (M := mX12_laysCuts) (t := tX12_laysCuts) (anns := ca_X12_laysCuts_10) 5 xx12 pl12 rfl kX12_laysCuts qq_ok cx_X12_laysCuts_10 cc_X12_laysCuts_10
def ck_X12_laysCuts_11 : AK := (1, [.inr (.inl [67]), .inl (.ofNat 0, .ofNat 23), .inl (.ofNat 1, .ofNat 4)], [94], false, [([(.ofNat 0, .ofNat 23), (.ofNat 1, .ofNat 4)], .inr (.inr 9), [])], [])
def cg_X12_laysCuts_11 : List (Nat × AK) := []
def ca_X12_laysCuts_11 : List (Nat × AA) := [(7, [(.ofNat 0, .ofNat 0), (.ofNat 0, .ofNat 23), (.ofNat 1, .ofNat 4), (.negSucc 0, .ofNat 3), (.ofNat 0, .ofNat 23)], [.inr (.inl [67]), .inl (1, .ofNat 0), .inl (2, .ofNat 0), .inl (4, .ofNat 0), .inl (3, .ofNat 0)], [], [], [(0, 4, 0), (0, 3, 0)], (.ofNat 1, [.ofNat 0, .ofNat 0, .ofNat 0, .ofNat 1, .ofNat 0]))]
set_option maxRecDepth 100000 in
theorem cc_X12_laysCuts_11 : aChk QPl CF ck_X12_laysCuts_11 cg_X12_laysCuts_11 xxX12 mX12_laysCuts tX12_laysCuts ca_X12_laysCuts_11 [] 5 = true := by decide +kernel
theorem cx_X12_laysCuts_11 : ctsO QQ CF xxX12 cg_X12_laysCuts_11 := ctsO_nil
theorem ct_X12_laysCuts_11 : ctrO QQ CF ck_X12_laysCuts_11 mX12_laysCuts := chk_ok (Q := QQ) (QP := QPl) (C := CF) (c := ck_X12_laysCuts_11) (G := cg_X12_laysCuts_11) (X := xxX12) (M := mX12_laysCuts) (t := tX12_laysCuts) (anns := ca_X12_laysCuts_11) 5 xx12 pl12 rfl kX12_laysCuts qq_ok cx_X12_laysCuts_11 cc_X12_laysCuts_11
def ck_X12_laysCuts_12 : AK := (1, [.inr (.inl [67]), .inl (.ofNat 0, .ofNat 24), .inl (.ofNat 1, .ofNat 4)], [94], false, [([(.ofNat 0, .ofNat 24), (.ofNat 1, .ofNat 4)], .inr (.inr 9), [])], [])
def cg_X12_laysCuts_12 : List (Nat × AK) := []
def ca_X12_laysCuts_12 : List (Nat × AA) := [(7, [(.ofNat 0, .ofNat 0), (.ofNat 0, .ofNat 24), (.ofNat 1, .ofNat 4), (.negSucc 0, .ofNat 3), (.ofNat 0, .ofNat 24)], [.inr (.inl [67]), .inl (1, .ofNat 0), .inl (2, .ofNat 0), .inl (4, .ofNat 0), .inl (3, .ofNat 0)], [], [], [(0, 4, 0), (0, 3, 0)], (.ofNat 1, [.ofNat 0, .ofNat 0, .ofNat 0, .ofNat 1, .ofNat 0]))]
set_option maxRecDepth 100000 in
theorem cc_X12_laysCuts_12 : aChk QPl CF ck_X12_laysCuts_12 cg_X12_laysCuts_12 xxX12 mX12_laysCuts tX12_laysCuts ca_X12_laysCuts_12 [] 5 = true := by decide +kernel
theorem cx_X12_laysCuts_12 : ctsO QQ CF xxX12 cg_X12_laysCuts_12 := ctsO_nil
theorem ct_X12_laysCuts_12 : ctrO QQ CF ck_X12_laysCuts_12 mX12_laysCuts := chk_ok (Q := QQ) (QP := QPl) (C := CF) (c := ck_X12_laysCuts_12) (G := cg_X12_laysCuts_12) (X := xxX12) (M := mX12_laysCuts) (t := tX12_laysCuts) (anns := ca_X12_laysCuts_12) 5 xx12 pl12 rfl kX12_laysCuts qq_ok cx_X12_laysCuts_12 cc_X12_laysCuts_12
def ck_X12_laysCuts_13 : AK := (1, [.inr (.inl [67]), .inl (.ofNat 0, .ofNat 30), .inl (.ofNat 1, .ofNat 4)], [94], false, [([(.ofNat 0, .ofNat 30), (.ofNat 1, .ofNat 4)], .inr (.inr 9), [])], [])
def cg_X12_laysCuts_13 : List (Nat × AK) := []
def ca_X12_laysCuts_13 : List (Nat × AA) := [(7, [(.ofNat 0, .ofNat 0), (.ofNat 0, .ofNat 30), (.ofNat 1, .ofNat 4), (.negSucc 0, .ofNat 3), (.ofNat 0, .ofNat 30)], [.inr (.inl [67]), .inl (1, .ofNat 0), .inl (2, .ofNat 0), .inl (4, .ofNat 0), .inl (3, .ofNat 0)], [], [], [(0, 4, 0), (0, 3, 0)], (.ofNat 1, [.ofNat 0, .ofNat 0, .ofNat 0, .ofNat 1, .ofNat 0]))]
set_option maxRecDepth 100000 in
theorem cc_X12_laysCuts_13 : aChk QPl CF ck_X12_laysCuts_13 cg_X12_laysCuts_13 xxX12 mX12_laysCuts tX12_laysCuts ca_X12_laysCuts_13 [] 5 = true := by decide +kernel
theorem cx_X12_laysCuts_13 : ctsO QQ CF xxX12 cg_X12_laysCuts_13 := ctsO_nil
theorem ct_X12_laysCuts_13 : ctrO QQ CF ck_X12_laysCuts_13 mX12_laysCuts := chk_ok (Q := QQ) (QP := QPl) (C := CF) (c := ck_X12_laysCuts_13) (G := cg_X12_laysCuts_13) (X := xxX12) (M := mX12_laysCuts) (t := tX12_laysCuts) (anns := ca_X12_laysCuts_13) 5 xx12 pl12 rfl kX12_laysCuts qq_ok cx_X12_laysCuts_13 cc_X12_laysCuts_13
def ck_X12_laysCuts_14 : AK := (1, [.inr (.inl [67]), .inl (.ofNat 0, .ofNat 39), .inl (.ofNat 1, .ofNat 4)], [94], false, [([(.ofNat 0, .ofNat 39), (.ofNat 1, .ofNat 4)], .inr (.inr 9), [])], [])
def cg_X12_laysCuts_14 : List (Nat × AK) := []
def ca_X12_laysCuts_14 : List (Nat × AA) := [(7, [(.ofNat 0, .ofNat 0), (.ofNat 0, .ofNat 39), (.ofNat 1, .ofNat 4), (.negSucc 0, .ofNat 3), (.ofNat 0, .ofNat 39)], [.inr (.inl [67]), .inl (1, .ofNat 0), .inl (2, .ofNat 0), .inl (4, .ofNat 0), .inl (3, .ofNat 0)], [], [], [(0, 4, 0), (0, 3, 0)], (.ofNat 1, [.ofNat 0, .ofNat 0, .ofNat 0, .ofNat 1, .ofNat 0]))]
set_option maxRecDepth 100000 in
theorem cc_X12_laysCuts_14 : aChk QPl CF ck_X12_laysCuts_14 cg_X12_laysCuts_14 xxX12 mX12_laysCuts tX12_laysCuts ca_X12_laysCuts_14 [] 5 = true := by decide +kernel
theorem cx_X12_laysCuts_14 : ctsO QQ CF xxX12 cg_X12_laysCuts_14 := ctsO_nil
theorem ct_X12_laysCuts_14 : ctrO QQ CF ck_X12_laysCuts_14 mX12_laysCuts := chk_ok (Q := QQ) (QP := QPl) (C := CF) (c := ck_X12_laysCuts_14) (G := cg_X12_laysCuts_14) (X := xxX12) (M := mX12_laysCuts) (t := tX12_laysCuts) (anns := ca_X12_laysCuts_14) 5 xx12 pl12 rfl kX12_laysCuts qq_ok cx_X12_laysCuts_14 cc_X12_laysCuts_14
def ck_X12_laysCuts_15 : AK := (1, [.inr (.inl [67]), .inl (.ofNat 0, .ofNat 40), .inl (.ofNat 1, .ofNat 4)], [94], false, [([(.ofNat 0, .ofNat 40), (.ofNat 1, .ofNat 4)], .inr (.inr 9), [])], [])
def cg_X12_laysCuts_15 : List (Nat × AK) := []
def ca_X12_laysCuts_15 : List (Nat × AA) := [(7, [(.ofNat 0, .ofNat 0), (.ofNat 0, .ofNat 40), (.ofNat 1, .ofNat 4), (.negSucc 0, .ofNat 3), (.ofNat 0, .ofNat 40)], [.inr (.inl [67]), .inl (1, .ofNat 0), .inl (2, .ofNat 0), .inl (4, .ofNat 0), .inl (3, .ofNat 0)], [], [], [(0, 4, 0), (0, 3, 0)], (.ofNat 1, [.ofNat 0, .ofNat 0, .ofNat 0, .ofNat 1, .ofNat 0]))]
set_option maxRecDepth 100000 in
theorem cc_X12_laysCuts_15 : aChk QPl CF ck_X12_laysCuts_15 cg_X12_laysCuts_15 xxX12 mX12_laysCuts tX12_laysCuts ca_X12_laysCuts_15 [] 5 = true := by decide +kernel
theorem cx_X12_laysCuts_15 : ctsO QQ CF xxX12 cg_X12_laysCuts_15 := ctsO_nil
theorem ct_X12_laysCuts_15 : ctrO QQ CF ck_X12_laysCuts_15 mX12_laysCuts := chk_ok (Q := QQ) (QP := QPl) (C := CF) (c := ck_X12_laysCuts_15) (G := cg_X12_laysCuts_15) (X := xxX12) (M := mX12_laysCuts) (t := tX12_laysCuts) (anns := ca_X12_laysCuts_15) 5 xx12 pl12 rfl kX12_laysCuts qq_ok cx_X12_laysCuts_15 cc_X12_laysCuts_15
def ck_X12_laysCuts_16 : AK := (1, [.inr (.inl [67]), .inl (.ofNat 0, .ofNat 41), .inl (.ofNat 1, .ofNat 4)], [94], false, [([(.ofNat 0, .ofNat 41), (.ofNat 1, .ofNat 4)], .inr (.inr 9), [])], [])
def cg_X12_laysCuts_16 : List (Nat × AK) := []
def ca_X12_laysCuts_16 : List (Nat × AA) := [(7, [(.ofNat 0, .ofNat 0), (.ofNat 0, .ofNat 41), (.ofNat 1, .ofNat 4), (.negSucc 0, .ofNat 3), (.ofNat 0, .ofNat 41)], [.inr (.inl [67]), .inl (1, .ofNat 0), .inl (2, .ofNat 0), .inl (4, .ofNat 0), .inl (3, .ofNat 0)], [], [], [(0, 4, 0), (0, 3, 0)], (.ofNat 1, [.ofNat 0, .ofNat 0, .ofNat 0, .ofNat 1, .ofNat 0]))]
set_option maxRecDepth 100000 in
theorem cc_X12_laysCuts_16 : aChk QPl CF ck_X12_laysCuts_16 cg_X12_laysCuts_16 xxX12 mX12_laysCuts tX12_laysCuts ca_X12_laysCuts_16 [] 5 = true := by decide +kernel
theorem cx_X12_laysCuts_16 : ctsO QQ CF xxX12 cg_X12_laysCuts_16 := ctsO_nil
theorem ct_X12_laysCuts_16 : ctrO QQ CF ck_X12_laysCuts_16 mX12_laysCuts := chk_ok (Q := QQ) (QP := QPl) (C := CF) (c := ck_X12_laysCuts_16) (G := cg_X12_laysCuts_16) (X := xxX12) (M := mX12_laysCuts) (t := tX12_laysCuts) (anns := ca_X12_laysCuts_16) 5 xx12 pl12 rfl kX12_laysCuts qq_ok cx_X12_laysCuts_16 cc_X12_laysCuts_16
def ck_X12_laysCuts_17 : AK := (1, [.inr (.inl [67]), .inl (.ofNat 0, .ofNat 63), .inl (.ofNat 1, .ofNat 4)], [94], false, [([(.ofNat 0, .ofNat 63), (.ofNat 1, .ofNat 4)], .inr (.inr 9), [])], [])
def cg_X12_laysCuts_17 : List (Nat × AK) := []
def ca_X12_laysCuts_17 : List (Nat × AA) := [(7, [(.ofNat 0, .ofNat 0), (.ofNat 0, .ofNat 63), (.ofNat 1, .ofNat 4), (.negSucc 0, .ofNat 3), (.ofNat 0, .ofNat 63)], [.inr (.inl [67]), .inl (1, .ofNat 0), .inl (2, .ofNat 0), .inl (4, .ofNat 0), .inl (3, .ofNat 0)], [], [], [(0, 4, 0), (0, 3, 0)], (.ofNat 1, [.ofNat 0, .ofNat 0, .ofNat 0, .ofNat 1, .ofNat 0]))]
set_option maxRecDepth 100000 in
theorem cc_X12_laysCuts_17 : aChk QPl CF ck_X12_laysCuts_17 cg_X12_laysCuts_17 xxX12 mX12_laysCuts tX12_laysCuts ca_X12_laysCuts_17 [] 5 = true := by decide +kernel
theorem cx_X12_laysCuts_17 : ctsO QQ CF xxX12 cg_X12_laysCuts_17 := ctsO_nil
theorem ct_X12_laysCuts_17 : ctrO QQ CF ck_X12_laysCuts_17 mX12_laysCuts := chk_ok (Q := QQ) (QP := QPl) (C := CF) (c := ck_X12_laysCuts_17) (G := cg_X12_laysCuts_17) (X := xxX12) (M := mX12_laysCuts) (t := tX12_laysCuts) (anns := ca_X12_laysCuts_17) 5 xx12 pl12 rfl kX12_laysCuts qq_ok cx_X12_laysCuts_17 cc_X12_laysCuts_17
def ck_X12_laysCuts_18 : AK := (1, [.inr (.inl [67]), .inl (.ofNat 0, .ofNat 64), .inl (.ofNat 1, .ofNat 4)], [94], false, [([(.ofNat 0, .ofNat 64), (.ofNat 1, .ofNat 4)], .inr (.inr 9), [])], [])
def cg_X12_laysCuts_18 : List (Nat × AK) := []
def ca_X12_laysCuts_18 : List (Nat × AA) := [(7, [(.ofNat 0, .ofNat 0), (.ofNat 0, .ofNat 64), (.ofNat 1, .ofNat 4), (.negSucc 0, .ofNat 3), (.ofNat 0, .ofNat 64)], [.inr (.inl [67]), .inl (1, .ofNat 0), .inl (2, .ofNat 0), .inl (4, .ofNat 0), .inl (3, .ofNat 0)], [], [], [(0, 4, 0), (0, 3, 0)], (.ofNat 1, [.ofNat 0, .ofNat 0, .ofNat 0, .ofNat 1, .ofNat 0]))]
set_option maxRecDepth 100000 in
theorem cc_X12_laysCuts_18 : aChk QPl CF ck_X12_laysCuts_18 cg_X12_laysCuts_18 xxX12 mX12_laysCuts tX12_laysCuts ca_X12_laysCuts_18 [] 5 = true := by decide +kernel
theorem cx_X12_laysCuts_18 : ctsO QQ CF xxX12 cg_X12_laysCuts_18 := ctsO_nil
theorem ct_X12_laysCuts_18 : ctrO QQ CF ck_X12_laysCuts_18 mX12_laysCuts := chk_ok (Q := QQ) (QP := QPl) (C := CF) (c := ck_X12_laysCuts_18) (G := cg_X12_laysCuts_18) (X := xxX12) (M := mX12_laysCuts) (t := tX12_laysCuts) (anns := ca_X12_laysCuts_18) 5 xx12 pl12 rfl kX12_laysCuts qq_ok cx_X12_laysCuts_18 cc_X12_laysCuts_18
def ck_X12_laysCuts_19 : AK := (1, [.inr (.inl [67]), .inl (.ofNat 0, .ofNat 68), .inl (.ofNat 1, .ofNat 4)], [94], false, [([(.ofNat 0, .ofNat 68), (.ofNat 1, .ofNat 4)], .inr (.inr 9), [])], [])
def cg_X12_laysCuts_19 : List (Nat × AK) := []
def ca_X12_laysCuts_19 : List (Nat × AA) := [(7, [(.ofNat 0, .ofNat 0), (.ofNat 0, .ofNat 68), (.ofNat 1, .ofNat 4), (.negSucc 0, .ofNat 3), (.ofNat 0, .ofNat 68)], [.inr (.inl [67]), .inl (1, .ofNat 0), .inl (2, .ofNat 0), .inl (4, .ofNat 0), .inl (3, .ofNat 0)], [], [], [(0, 4, 0), (0, 3, 0)], (.ofNat 1, [.ofNat 0, .ofNat 0, .ofNat 0, .ofNat 1, .ofNat 0]))]
set_option maxRecDepth 100000 in
theorem cc_X12_laysCuts_19 : aChk QPl CF ck_X12_laysCuts_19 cg_X12_laysCuts_19 xxX12 mX12_laysCuts tX12_laysCuts ca_X12_laysCuts_19 [] 5 = true := by decide +kernel
theorem cx_X12_laysCuts_19 : ctsO QQ CF xxX12 cg_X12_laysCuts_19 := ctsO_nil
theorem ct_X12_laysCuts_19 : ctrO QQ CF ck_X12_laysCuts_19 mX12_laysCuts := chk_ok (Q := QQ) (QP := QPl) (C := CF) (c := ck_X12_laysCuts_19) (G := cg_X12_laysCuts_19) (X := xxX12) (M := mX12_laysCuts) (t := tX12_laysCuts) (anns := ca_X12_laysCuts_19) 5 xx12 pl12 rfl kX12_laysCuts qq_ok cx_X12_laysCuts_19 cc_X12_laysCuts_19
def ck_X12_laysCuts_20 : AK := (1, [.inr (.inl [67]), .inl (.ofNat 0, .ofNat 69), .inl (.ofNat 1, .ofNat 4)], [94], false, [([(.ofNat 0, .ofNat 69), (.ofNat 1, .ofNat 4)], .inr (.inr 9), [])], [])
def cg_X12_laysCuts_20 : List (Nat × AK) := []
def ca_X12_laysCuts_20 : List (Nat × AA) := [(7, [(.ofNat 0, .ofNat 0), (.ofNat 0, .ofNat 69), (.ofNat 1, .ofNat 4), (.negSucc 0, .ofNat 3), (.ofNat 0, .ofNat 69)], [.inr (.inl [67]), .inl (1, .ofNat 0), .inl (2, .ofNat 0), .inl (4, .ofNat 0), .inl (3, .ofNat 0)], [], [], [(0, 4, 0), (0, 3, 0)], (.ofNat 1, [.ofNat 0, .ofNat 0, .ofNat 0, .ofNat 1, .ofNat 0]))]
set_option maxRecDepth 100000 in
theorem cc_X12_laysCuts_20 : aChk QPl CF ck_X12_laysCuts_20 cg_X12_laysCuts_20 xxX12 mX12_laysCuts tX12_laysCuts ca_X12_laysCuts_20 [] 5 = true := by decide +kernel
theorem cx_X12_laysCuts_20 : ctsO QQ CF xxX12 cg_X12_laysCuts_20 := ctsO_nil
theorem ct_X12_laysCuts_20 : ctrO QQ CF ck_X12_laysCuts_20 mX12_laysCuts := chk_ok (Q := QQ) (QP := QPl) (C := CF) (c := ck_X12_laysCuts_20) (G := cg_X12_laysCuts_20) (X := xxX12) (M := mX12_laysCuts) (t := tX12_laysCuts) (anns := ca_X12_laysCuts_20) 5 xx12 pl12 rfl kX12_laysCuts qq_ok cx_X12_laysCuts_20 cc_X12_laysCuts_20
def ck_X12_laysCuts_21 : AK := (1, [.inr (.inl [67]), .inl (.ofNat 0, .ofNat 79), .inl (.ofNat 1, .ofNat 4)], [94], false, [([(.ofNat 0, .ofNat 79), (.ofNat 1, .ofNat 4)], .inr (.inr 9), [])], [])
def cg_X12_laysCuts_21 : List (Nat × AK) := []
def ca_X12_laysCuts_21 : List (Nat × AA) := [(7, [(.ofNat 0, .ofNat 0), (.ofNat 0, .ofNat 79), (.ofNat 1, .ofNat 4), (.negSucc 0, .ofNat 3), (.ofNat 0, .ofNat 79)], [.inr (.inl [67]), .inl (1, .ofNat 0), .inl (2, .ofNat 0), .inl (4, .ofNat 0), .inl (3, .ofNat 0)], [], [], [(0, 4, 0), (0, 3, 0)], (.ofNat 1, [.ofNat 0, .ofNat 0, .ofNat 0, .ofNat 1, .ofNat 0]))]
set_option maxRecDepth 100000 in
theorem cc_X12_laysCuts_21 : aChk QPl CF ck_X12_laysCuts_21 cg_X12_laysCuts_21 xxX12 mX12_laysCuts tX12_laysCuts ca_X12_laysCuts_21 [] 5 = true := by decide +kernel
theorem cx_X12_laysCuts_21 : ctsO QQ CF xxX12 cg_X12_laysCuts_21 := ctsO_nil
theorem ct_X12_laysCuts_21 : ctrO QQ CF ck_X12_laysCuts_21 mX12_laysCuts := chk_ok (Q := QQ) (QP := QPl) (C := CF) (c := ck_X12_laysCuts_21) (G := cg_X12_laysCuts_21) (X := xxX12) (M := mX12_laysCuts) (t := tX12_laysCuts) (anns := ca_X12_laysCuts_21) 5 xx12 pl12 rfl kX12_laysCuts qq_ok cx_X12_laysCuts_21 cc_X12_laysCuts_21
def ck_X12_laysCuts_22 : AK := (1, [.inr (.inl [67]), .inl (.ofNat 0, .ofNat 80), .inl (.ofNat 1, .ofNat 4)], [94], false, [([(.ofNat 0, .ofNat 80), (.ofNat 1, .ofNat 4)], .inr (.inr 9), [])], [])
def cg_X12_laysCuts_22 : List (Nat × AK) := []
def ca_X12_laysCuts_22 : List (Nat × AA) := [(7, [(.ofNat 0, .ofNat 0), (.ofNat 0, .ofNat 80), (.ofNat 1, .ofNat 4), (.negSucc 0, .ofNat 3), (.ofNat 0, .ofNat 80)], [.inr (.inl [67]), .inl (1, .ofNat 0), .inl (2, .ofNat 0), .inl (4, .ofNat 0), .inl (3, .ofNat 0)], [], [], [(0, 4, 0), (0, 3, 0)], (.ofNat 1, [.ofNat 0, .ofNat 0, .ofNat 0, .ofNat 1, .ofNat 0]))]
set_option maxRecDepth 100000 in
theorem cc_X12_laysCuts_22 : aChk QPl CF ck_X12_laysCuts_22 cg_X12_laysCuts_22 xxX12 mX12_laysCuts tX12_laysCuts ca_X12_laysCuts_22 [] 5 = true := by decide +kernel
theorem cx_X12_laysCuts_22 : ctsO QQ CF xxX12 cg_X12_laysCuts_22 := ctsO_nil
theorem ct_X12_laysCuts_22 : ctrO QQ CF ck_X12_laysCuts_22 mX12_laysCuts := chk_ok (Q := QQ) (QP := QPl) (C := CF) (c := ck_X12_laysCuts_22) (G := cg_X12_laysCuts_22) (X := xxX12) (M := mX12_laysCuts) (t := tX12_laysCuts) (anns := ca_X12_laysCuts_22) 5 xx12 pl12 rfl kX12_laysCuts qq_ok cx_X12_laysCuts_22 cc_X12_laysCuts_22
def ck_X12_laysCuts_23 : AK := (1, [.inr (.inl [67]), .inl (.ofNat 0, .ofNat 95), .inl (.ofNat 1, .ofNat 4)], [94], false, [([(.ofNat 0, .ofNat 95), (.ofNat 1, .ofNat 4)], .inr (.inr 9), [])], [])
def cg_X12_laysCuts_23 : List (Nat × AK) := []
def ca_X12_laysCuts_23 : List (Nat × AA) := [(7, [(.ofNat 0, .ofNat 0), (.ofNat 0, .ofNat 95), (.ofNat 1, .ofNat 4), (.negSucc 0, .ofNat 3), (.ofNat 0, .ofNat 95)], [.inr (.inl [67]), .inl (1, .ofNat 0), .inl (2, .ofNat 0), .inl (4, .ofNat 0), .inl (3, .ofNat 0)], [], [], [(0, 4, 0), (0, 3, 0)], (.ofNat 1, [.ofNat 0, .ofNat 0, .ofNat 0, .ofNat 1, .ofNat 0]))]
set_option maxRecDepth 100000 in
theorem cc_X12_laysCuts_23 : aChk QPl CF ck_X12_laysCuts_23 cg_X12_laysCuts_23 xxX12 mX12_laysCuts tX12_laysCuts ca_X12_laysCuts_23 [] 5 = true := by decide +kernel
theorem cx_X12_laysCuts_23 : ctsO QQ CF xxX12 cg_X12_laysCuts_23 := ctsO_nil
theorem ct_X12_laysCuts_23 : ctrO QQ CF ck_X12_laysCuts_23 mX12_laysCuts := chk_ok (Q := QQ) (QP := QPl) (C := CF) (c := ck_X12_laysCuts_23) (G := cg_X12_laysCuts_23) (X := xxX12) (M := mX12_laysCuts) (t := tX12_laysCuts) (anns := ca_X12_laysCuts_23) 5 xx12 pl12 rfl kX12_laysCuts qq_ok cx_X12_laysCuts_23 cc_X12_laysCuts_23
def ck_X12_laysCuts_24 : AK := (1, [.inr (.inl [67]), .inl (.ofNat 0, .ofNat 96), .inl (.ofNat 1, .ofNat 4)], [94], false, [([(.ofNat 0, .ofNat 96), (.ofNat 1, .ofNat 4)], .inr (.inr 9), [])], [])
def cg_X12_laysCuts_24 : List (Nat × AK) := []
def ca_X12_laysCuts_24 : List (Nat × AA) := [(7, [(.ofNat 0, .ofNat 0), (.ofNat 0, .ofNat 96), (.ofNat 1, .ofNat 4), (.negSucc 0, .ofNat 3), (.ofNat 0, .ofNat 96)], [.inr (.inl [67]), .inl (1, .ofNat 0), .inl (2, .ofNat 0), .inl (4, .ofNat 0), .inl (3, .ofNat 0)], [], [], [(0, 4, 0), (0, 3, 0)], (.ofNat 1, [.ofNat 0, .ofNat 0, .ofNat 0, .ofNat 1, .ofNat 0]))]
set_option maxRecDepth 100000 in
theorem cc_X12_laysCuts_24 : aChk QPl CF ck_X12_laysCuts_24 cg_X12_laysCuts_24 xxX12 mX12_laysCuts tX12_laysCuts ca_X12_laysCuts_24 [] 5 = true := by decide +kernel
theorem cx_X12_laysCuts_24 : ctsO QQ CF xxX12 cg_X12_laysCuts_24 := ctsO_nil
theorem ct_X12_laysCuts_24 : ctrO QQ CF ck_X12_laysCuts_24 mX12_laysCuts := chk_ok (Q := QQ) (QP := QPl) (C := CF) (c := ck_X12_laysCuts_24) (G := cg_X12_laysCuts_24) (X := xxX12) (M := mX12_laysCuts) (t := tX12_laysCuts) (anns := ca_X12_laysCuts_24) 5 xx12 pl12 rfl kX12_laysCuts qq_ok cx_X12_laysCuts_24 cc_X12_laysCuts_24
def ck_X12_laysCuts_25 : AK := (1, [.inr (.inl [67]), .inl (.ofNat 0, .ofNat 199), .inl (.ofNat 1, .ofNat 4)], [94], false, [([(.ofNat 0, .ofNat 199), (.ofNat 1, .ofNat 4)], .inr (.inr 9), [])], [])
def cg_X12_laysCuts_25 : List (Nat × AK) := []
def ca_X12_laysCuts_25 : List (Nat × AA) := [(7, [(.ofNat 0, .ofNat 0), (.ofNat 0, .ofNat 199), (.ofNat 1, .ofNat 4), (.negSucc 0, .ofNat 3), (.ofNat 0, .ofNat 199)], [.inr (.inl [67]), .inl (1, .ofNat 0), .inl (2, .ofNat 0), .inl (4, .ofNat 0), .inl (3, .ofNat 0)], [], [], [(0, 4, 0), (0, 3, 0)], (.ofNat 1, [.ofNat 0, .ofNat 0, .ofNat 0, .ofNat 1, .ofNat 0]))]
set_option maxRecDepth 100000 in
theorem cc_X12_laysCuts_25 : aChk QPl CF ck_X12_laysCuts_25 cg_X12_laysCuts_25 xxX12 mX12_laysCuts tX12_laysCuts ca_X12_laysCuts_25 [] 5 = true := by decide +kernel
theorem cx_X12_laysCuts_25 : ctsO QQ CF xxX12 cg_X12_laysCuts_25 := ctsO_nil
theorem ct_X12_laysCuts_25 : ctrO QQ CF ck_X12_laysCuts_25 mX12_laysCuts := chk_ok (Q := QQ) (QP := QPl) (C := CF) (c := ck_X12_laysCuts_25) (G := cg_X12_laysCuts_25) (X := xxX12) (M := mX12_laysCuts) (t := tX12_laysCuts) (anns := ca_X12_laysCuts_25) 5 xx12 pl12 rfl kX12_laysCuts qq_ok cx_X12_laysCuts_25 cc_X12_laysCuts_25
def ck_X12_laysCuts_26 : AK := (1, [.inr (.inl [67]), .inl (.ofNat 0, .ofNat 200), .inl (.ofNat 1, .ofNat 4)], [94], false, [([(.ofNat 0, .ofNat 200), (.ofNat 1, .ofNat 4)], .inr (.inr 9), [])], [])
def cg_X12_laysCuts_26 : List (Nat × AK) := []
def ca_X12_laysCuts_26 : List (Nat × AA) := [(7, [(.ofNat 0, .ofNat 0), (.ofNat 0, .ofNat 200), (.ofNat 1, .ofNat 4), (.negSucc 0, .ofNat 3), (.ofNat 0, .ofNat 200)], [.inr (.inl [67]), .inl (1, .ofNat 0), .inl (2, .ofNat 0), .inl (4, .ofNat 0), .inl (3, .ofNat 0)], [], [], [(0, 4, 0), (0, 3, 0)], (.ofNat 1, [.ofNat 0, .ofNat 0, .ofNat 0, .ofNat 1, .ofNat 0]))]
set_option maxRecDepth 100000 in
theorem cc_X12_laysCuts_26 : aChk QPl CF ck_X12_laysCuts_26 cg_X12_laysCuts_26 xxX12 mX12_laysCuts tX12_laysCuts ca_X12_laysCuts_26 [] 5 = true := by decide +kernel
theorem cx_X12_laysCuts_26 : ctsO QQ CF xxX12 cg_X12_laysCuts_26 := ctsO_nil
theorem ct_X12_laysCuts_26 : ctrO QQ CF ck_X12_laysCuts_26 mX12_laysCuts := chk_ok (Q := QQ) (QP := QPl) (C := CF) (c := ck_X12_laysCuts_26) (G := cg_X12_laysCuts_26) (X := xxX12) (M := mX12_laysCuts) (t := tX12_laysCuts) (anns := ca_X12_laysCuts_26) 5 xx12 pl12 rfl kX12_laysCuts qq_ok cx_X12_laysCuts_26 cc_X12_laysCuts_26
def ck_X12_laysCuts_27 : AK := (1, [.inr (.inl [67]), .inl (.ofNat 0, .ofNat 275), .inl (.ofNat 1, .ofNat 4)], [94], false, [([(.ofNat 0, .ofNat 275), (.ofNat 1, .ofNat 4)], .inr (.inr 9), [])], [])
def cg_X12_laysCuts_27 : List (Nat × AK) := []
def ca_X12_laysCuts_27 : List (Nat × AA) := [(7, [(.ofNat 0, .ofNat 0), (.ofNat 0, .ofNat 275), (.ofNat 1, .ofNat 4), (.negSucc 0, .ofNat 3), (.ofNat 0, .ofNat 275)], [.inr (.inl [67]), .inl (1, .ofNat 0), .inl (2, .ofNat 0), .inl (4, .ofNat 0), .inl (3, .ofNat 0)], [], [], [(0, 4, 0), (0, 3, 0)], (.ofNat 1, [.ofNat 0, .ofNat 0, .ofNat 0, .ofNat 1, .ofNat 0]))]
set_option maxRecDepth 100000 in
theorem cc_X12_laysCuts_27 : aChk QPl CF ck_X12_laysCuts_27 cg_X12_laysCuts_27 xxX12 mX12_laysCuts tX12_laysCuts ca_X12_laysCuts_27 [] 5 = true := by decide +kernel
theorem cx_X12_laysCuts_27 : ctsO QQ CF xxX12 cg_X12_laysCuts_27 := ctsO_nil
theorem ct_X12_laysCuts_27 : ctrO QQ CF ck_X12_laysCuts_27 mX12_laysCuts := chk_ok (Q := QQ) (QP := QPl) (C := CF) (c := ck_X12_laysCuts_27) (G := cg_X12_laysCuts_27) (X := xxX12) (M := mX12_laysCuts) (t := tX12_laysCuts) (anns := ca_X12_laysCuts_27) 5 xx12 pl12 rfl kX12_laysCuts qq_ok cx_X12_laysCuts_27 cc_X12_laysCuts_27
def ck_X12_laysCuts_28 : AK := (1, [.inr (.inl [67]), .inl (.ofNat 0, .ofNat 276), .inl (.ofNat 1, .ofNat 4)], [94], false, [([(.ofNat 0, .ofNat 276), (.ofNat 1, .ofNat 4)], .inr (.inr 9), [])], [])
def cg_X12_laysCuts_28 : List (Nat × AK) := []
def ca_X12_laysCuts_28 : List (Nat × AA) := [(7, [(.ofNat 0, .ofNat 0), (.ofNat 0, .ofNat 276), (.ofNat 1, .ofNat 4), (.negSucc 0, .ofNat 3), (.ofNat 0, .ofNat 276)], [.inr (.inl [67]), .inl (1, .ofNat 0), .inl (2, .ofNat 0), .inl (4, .ofNat 0), .inl (3, .ofNat 0)], [], [], [(0, 4, 0), (0, 3, 0)], (.ofNat 1, [.ofNat 0, .ofNat 0, .ofNat 0, .ofNat 1, .ofNat 0]))]
set_option maxRecDepth 100000 in
theorem cc_X12_laysCuts_28 : aChk QPl CF ck_X12_laysCuts_28 cg_X12_laysCuts_28 xxX12 mX12_laysCuts tX12_laysCuts ca_X12_laysCuts_28 [] 5 = true := by decide +kernel
theorem cx_X12_laysCuts_28 : ctsO QQ CF xxX12 cg_X12_laysCuts_28 := ctsO_nil
theorem ct_X12_laysCuts_28 : ctrO QQ CF ck_X12_laysCuts_28 mX12_laysCuts := chk_ok (Q := QQ) (QP := QPl) (C := CF) (c := ck_X12_laysCuts_28) (G := cg_X12_laysCuts_28) (X := xxX12) (M := mX12_laysCuts) (t := tX12_laysCuts) (anns := ca_X12_laysCuts_28) 5 xx12 pl12 rfl kX12_laysCuts qq_ok cx_X12_laysCuts_28 cc_X12_laysCuts_28
def ck_X12_laysCuts_29 : AK := (1, [.inr (.inl [67]), .inl (.ofNat 0, .ofNat 299), .inl (.ofNat 1, .ofNat 4)], [94], false, [([(.ofNat 0, .ofNat 299), (.ofNat 1, .ofNat 4)], .inr (.inr 9), [])], [])
def cg_X12_laysCuts_29 : List (Nat × AK) := []
def ca_X12_laysCuts_29 : List (Nat × AA) := [(7, [(.ofNat 0, .ofNat 0), (.ofNat 0, .ofNat 299), (.ofNat 1, .ofNat 4), (.negSucc 0, .ofNat 3), (.ofNat 0, .ofNat 299)], [.inr (.inl [67]), .inl (1, .ofNat 0), .inl (2, .ofNat 0), .inl (4, .ofNat 0), .inl (3, .ofNat 0)], [], [], [(0, 4, 0), (0, 3, 0)], (.ofNat 1, [.ofNat 0, .ofNat 0, .ofNat 0, .ofNat 1, .ofNat 0]))]
set_option maxRecDepth 100000 in
theorem cc_X12_laysCuts_29 : aChk QPl CF ck_X12_laysCuts_29 cg_X12_laysCuts_29 xxX12 mX12_laysCuts tX12_laysCuts ca_X12_laysCuts_29 [] 5 = true := by decide +kernel
theorem cx_X12_laysCuts_29 : ctsO QQ CF xxX12 cg_X12_laysCuts_29 := ctsO_nil
theorem ct_X12_laysCuts_29 : ctrO QQ CF ck_X12_laysCuts_29 mX12_laysCuts := chk_ok (Q := QQ) (QP := QPl) (C := CF) (c := ck_X12_laysCuts_29) (G := cg_X12_laysCuts_29) (X := xxX12) (M := mX12_laysCuts) (t := tX12_laysCuts) (anns := ca_X12_laysCuts_29) 5 xx12 pl12 rfl kX12_laysCuts qq_ok cx_X12_laysCuts_29 cc_X12_laysCuts_29
def ck_X12_laysCuts_30 : AK := (1, [.inr (.inl [67]), .inl (.ofNat 0, .ofNat 300), .inl (.ofNat 1, .ofNat 4)], [94], false, [([(.ofNat 0, .ofNat 300), (.ofNat 1, .ofNat 4)], .inr (.inr 9), [])], [])
def cg_X12_laysCuts_30 : List (Nat × AK) := []
def ca_X12_laysCuts_30 : List (Nat × AA) := [(7, [(.ofNat 0, .ofNat 0), (.ofNat 0, .ofNat 300), (.ofNat 1, .ofNat 4), (.negSucc 0, .ofNat 3), (.ofNat 0, .ofNat 300)], [.inr (.inl [67]), .inl (1, .ofNat 0), .inl (2, .ofNat 0), .inl (4, .ofNat 0), .inl (3, .ofNat 0)], [], [], [(0, 4, 0), (0, 3, 0)], (.ofNat 1, [.ofNat 0, .ofNat 0, .ofNat 0, .ofNat 1, .ofNat 0]))]
set_option maxRecDepth 100000 in
theorem cc_X12_laysCuts_30 : aChk QPl CF ck_X12_laysCuts_30 cg_X12_laysCuts_30 xxX12 mX12_laysCuts tX12_laysCuts ca_X12_laysCuts_30 [] 5 = true := by decide +kernel
theorem cx_X12_laysCuts_30 : ctsO QQ CF xxX12 cg_X12_laysCuts_30 := ctsO_nil
theorem ct_X12_laysCuts_30 : ctrO QQ CF ck_X12_laysCuts_30 mX12_laysCuts := chk_ok (Q := QQ) (QP := QPl) (C := CF) (c := ck_X12_laysCuts_30) (G := cg_X12_laysCuts_30) (X := xxX12) (M := mX12_laysCuts) (t := tX12_laysCuts) (anns := ca_X12_laysCuts_30) 5 xx12 pl12 rfl kX12_laysCuts qq_ok cx_X12_laysCuts_30 cc_X12_laysCuts_30
def ck_X12_laysCuts_31 : AK := (1, [.inr (.inl [67]), .inl (.ofNat 0, .ofNat 301), .inl (.ofNat 1, .ofNat 4)], [94], false, [([(.ofNat 0, .ofNat 301), (.ofNat 1, .ofNat 4)], .inr (.inr 9), [])], [])
def cg_X12_laysCuts_31 : List (Nat × AK) := []
def ca_X12_laysCuts_31 : List (Nat × AA) := [(7, [(.ofNat 0, .ofNat 0), (.ofNat 0, .ofNat 301), (.ofNat 1, .ofNat 4), (.negSucc 0, .ofNat 3), (.ofNat 0, .ofNat 301)], [.inr (.inl [67]), .inl (1, .ofNat 0), .inl (2, .ofNat 0), .inl (4, .ofNat 0), .inl (3, .ofNat 0)], [], [], [(0, 4, 0), (0, 3, 0)], (.ofNat 1, [.ofNat 0, .ofNat 0, .ofNat 0, .ofNat 1, .ofNat 0]))]
set_option maxRecDepth 100000 in
theorem cc_X12_laysCuts_31 : aChk QPl CF ck_X12_laysCuts_31 cg_X12_laysCuts_31 xxX12 mX12_laysCuts tX12_laysCuts ca_X12_laysCuts_31 [] 5 = true := by decide +kernel
theorem cx_X12_laysCuts_31 : ctsO QQ CF xxX12 cg_X12_laysCuts_31 := ctsO_nil
theorem ct_X12_laysCuts_31 : ctrO QQ CF ck_X12_laysCuts_31 mX12_laysCuts := chk_ok (Q := QQ) (QP := QPl) (C := CF) (c := ck_X12_laysCuts_31) (G := cg_X12_laysCuts_31) (X := xxX12) (M := mX12_laysCuts) (t := tX12_laysCuts) (anns := ca_X12_laysCuts_31) 5 xx12 pl12 rfl kX12_laysCuts qq_ok cx_X12_laysCuts_31 cc_X12_laysCuts_31
def ck_X12_laysCuts_32 : AK := (1, [.inr (.inl [67]), .inl (.ofNat 0, .ofNat 399), .inl (.ofNat 1, .ofNat 4)], [94], false, [([(.ofNat 0, .ofNat 399), (.ofNat 1, .ofNat 4)], .inr (.inr 9), [])], [])
def cg_X12_laysCuts_32 : List (Nat × AK) := []
def ca_X12_laysCuts_32 : List (Nat × AA) := [(7, [(.ofNat 0, .ofNat 0), (.ofNat 0, .ofNat 399), (.ofNat 1, .ofNat 4), (.negSucc 0, .ofNat 3), (.ofNat 0, .ofNat 399)], [.inr (.inl [67]), .inl (1, .ofNat 0), .inl (2, .ofNat 0), .inl (4, .ofNat 0), .inl (3, .ofNat 0)], [], [], [(0, 4, 0), (0, 3, 0)], (.ofNat 1, [.ofNat 0, .ofNat 0, .ofNat 0, .ofNat 1, .ofNat 0]))]
set_option maxRecDepth 100000 in
theorem cc_X12_laysCuts_32 : aChk QPl CF ck_X12_laysCuts_32 cg_X12_laysCuts_32 xxX12 mX12_laysCuts tX12_laysCuts ca_X12_laysCuts_32 [] 5 = true := by decide +kernel
theorem cx_X12_laysCuts_32 : ctsO QQ CF xxX12 cg_X12_laysCuts_32 := ctsO_nil
theorem ct_X12_laysCuts_32 : ctrO QQ CF ck_X12_laysCuts_32 mX12_laysCuts := chk_ok (Q := QQ) (QP := QPl) (C := CF) (c := ck_X12_laysCuts_32) (G := cg_X12_laysCuts_32) (X := xxX12) (M := mX12_laysCuts) (t := tX12_laysCuts) (anns := ca_X12_laysCuts_32) 5 xx12 pl12 rfl kX12_laysCuts qq_ok cx_X12_laysCuts_32 cc_X12_laysCuts_32
def ck_X12_laysCuts_33 : AK := (1, [.inr (.inl [67]), .inl (.ofNat 0, .ofNat 400), .inl (.ofNat 1, .ofNat 4)], [94], false, [([(.ofNat 0, .ofNat 400), (.ofNat 1, .ofNat 4)], .inr (.inr 9), [])], [])
def cg_X12_laysCuts_33 : List (Nat × AK) := []
def ca_X12_laysCuts_33 : List (Nat × AA) := [(7, [(.ofNat 0, .ofNat 0), (.ofNat 0, .ofNat 400), (.ofNat 1, .ofNat 4), (.negSucc 0, .ofNat 3), (.ofNat 0, .ofNat 400)], [.inr (.inl [67]), .inl (1, .ofNat 0), .inl (2, .ofNat 0), .inl (4, .ofNat 0), .inl (3, .ofNat 0)], [], [], [(0, 4, 0), (0, 3, 0)], (.ofNat 1, [.ofNat 0, .ofNat 0, .ofNat 0, .ofNat 1, .ofNat 0]))]
set_option maxRecDepth 100000 in
theorem cc_X12_laysCuts_33 : aChk QPl CF ck_X12_laysCuts_33 cg_X12_laysCuts_33 xxX12 mX12_laysCuts tX12_laysCuts ca_X12_laysCuts_33 [] 5 = true := by decide +kernel
theorem cx_X12_laysCuts_33 : ctsO QQ CF xxX12 cg_X12_laysCuts_33 := ctsO_nil
theorem ct_X12_laysCuts_33 : ctrO QQ CF ck_X12_laysCuts_33 mX12_laysCuts := chk_ok (Q := QQ) (QP := QPl) (C := CF) (c := ck_X12_laysCuts_33) (G := cg_X12_laysCuts_33) (X := xxX12) (M := mX12_laysCuts) (t := tX12_laysCuts) (anns := ca_X12_laysCuts_33) 5 xx12 pl12 rfl kX12_laysCuts qq_ok cx_X12_laysCuts_33 cc_X12_laysCuts_33
def ck_X12_laysCuts_34 : AK := (1, [.inr (.inl [67]), .inl (.ofNat 0, .ofNat 999), .inl (.ofNat 1, .ofNat 4)], [94], false, [([(.ofNat 0, .ofNat 999), (.ofNat 1, .ofNat 4)], .inr (.inr 9), [])], [])
def cg_X12_laysCuts_34 : List (Nat × AK) := []
def ca_X12_laysCuts_34 : List (Nat × AA) := [(7, [(.ofNat 0, .ofNat 0), (.ofNat 0, .ofNat 999), (.ofNat 1, .ofNat 4), (.negSucc 0, .ofNat 3), (.ofNat 0, .ofNat 999)], [.inr (.inl [67]), .inl (1, .ofNat 0), .inl (2, .ofNat 0), .inl (4, .ofNat 0), .inl (3, .ofNat 0)], [], [], [(0, 4, 0), (0, 3, 0)], (.ofNat 1, [.ofNat 0, .ofNat 0, .ofNat 0, .ofNat 1, .ofNat 0]))]
set_option maxRecDepth 100000 in
theorem cc_X12_laysCuts_34 : aChk QPl CF ck_X12_laysCuts_34 cg_X12_laysCuts_34 xxX12 mX12_laysCuts tX12_laysCuts ca_X12_laysCuts_34 [] 5 = true := by decide +kernel
theorem cx_X12_laysCuts_34 : ctsO QQ CF xxX12 cg_X12_laysCuts_34 := ctsO_nil
theorem ct_X12_laysCuts_34 : ctrO QQ CF ck_X12_laysCuts_34 mX12_laysCuts := chk_ok (Q := QQ) (QP := QPl) (C := CF) (c := ck_X12_laysCuts_34) (G := cg_X12_laysCuts_34) (X := xxX12) (M := mX12_laysCuts) (t := tX12_laysCuts) (anns := ca_X12_laysCuts_34) 5 xx12 pl12 rfl kX12_laysCuts qq_ok cx_X12_laysCuts_34 cc_X12_laysCuts_34
def ck_X12_laysCuts_35 : AK := (1, [.inr (.inl [67]), .inl (.ofNat 0, .ofNat 1599), .inl (.ofNat 1, .ofNat 4)], [94], false, [([(.ofNat 0, .ofNat 1599), (.ofNat 1, .ofNat 4)], .inr (.inr 9), [])], [])
def cg_X12_laysCuts_35 : List (Nat × AK) := []
def ca_X12_laysCuts_35 : List (Nat × AA) := [(7, [(.ofNat 0, .ofNat 0), (.ofNat 0, .ofNat 1599), (.ofNat 1, .ofNat 4), (.negSucc 0, .ofNat 3), (.ofNat 0, .ofNat 1599)], [.inr (.inl [67]), .inl (1, .ofNat 0), .inl (2, .ofNat 0), .inl (4, .ofNat 0), .inl (3, .ofNat 0)], [], [], [(0, 4, 0), (0, 3, 0)], (.ofNat 1, [.ofNat 0, .ofNat 0, .ofNat 0, .ofNat 1, .ofNat 0]))]
set_option maxRecDepth 100000 in
theorem cc_X12_laysCuts_35 : aChk QPl CF ck_X12_laysCuts_35 cg_X12_laysCuts_35 xxX12 mX12_laysCuts tX12_laysCuts ca_X12_laysCuts_35 [] 5 = true := by decide +kernel
theorem cx_X12_laysCuts_35 : ctsO QQ CF xxX12 cg_X12_laysCuts_35 := ctsO_nil
theorem ct_X12_laysCuts_35 : ctrO QQ CF ck_X12_laysCuts_35 mX12_laysCuts := chk_ok (Q := QQ) (QP := QPl) (C := CF) (c := ck_X12_laysCuts_35) (G := cg_X12_laysCuts_35) (X := xxX12) (M := mX12_laysCuts) (t := tX12_laysCuts) (anns := ca_X12_laysCuts_35) 5 xx12 pl12 rfl kX12_laysCuts qq_ok cx_X12_laysCuts_35 cc_X12_laysCuts_35
def ck_X12_laysCuts_36 : AK := (1, [.inr (.inl [67]), .inl (.ofNat 0, .ofNat 2147483646), .inl (.ofNat 1, .ofNat 4)], [94], false, [([(.ofNat 0, .ofNat 2147483646), (.ofNat 1, .ofNat 4)], .inr (.inr 9), [])], [])
def cg_X12_laysCuts_36 : List (Nat × AK) := []
def ca_X12_laysCuts_36 : List (Nat × AA) := [(7, [(.ofNat 0, .ofNat 0), (.ofNat 0, .ofNat 2147483646), (.ofNat 1, .ofNat 4), (.negSucc 0, .ofNat 3), (.ofNat 0, .ofNat 2147483646)], [.inr (.inl [67]), .inl (1, .ofNat 0), .inl (2, .ofNat 0), .inl (4, .ofNat 0), .inl (3, .ofNat 0)], [], [], [(0, 4, 0), (0, 3, 0)], (.ofNat 1, [.ofNat 0, .ofNat 0, .ofNat 0, .ofNat 1, .ofNat 0]))]
set_option maxRecDepth 100000 in
theorem cc_X12_laysCuts_36 : aChk QPl CF ck_X12_laysCuts_36 cg_X12_laysCuts_36 xxX12 mX12_laysCuts tX12_laysCuts ca_X12_laysCuts_36 [] 5 = true := by decide +kernel
theorem cx_X12_laysCuts_36 : ctsO QQ CF xxX12 cg_X12_laysCuts_36 := ctsO_nil
theorem ct_X12_laysCuts_36 : ctrO QQ CF ck_X12_laysCuts_36 mX12_laysCuts := chk_ok (Q := QQ) (QP := QPl) (C := CF) (c := ck_X12_laysCuts_36) (G := cg_X12_laysCuts_36) (X := xxX12) (M := mX12_laysCuts) (t := tX12_laysCuts) (anns := ca_X12_laysCuts_36) 5 xx12 pl12 rfl kX12_laysCuts qq_ok cx_X12_laysCuts_36 cc_X12_laysCuts_36
def ck_X12_most_0 : AK := (14, [.inr (.inl [67]), .inl fr, .inl fr, .inl fr, .inl fr], [91, 93, 94, 95], false, [([fr, fr, fr, fr], .inl (.negSucc 0, .negSucc 0), []), ([(.ofNat 0, .ofNat 3), (.ofNat 0, .ofNat 3), (.ofNat 1, .ofNat 4), (.negSucc 0, .ofNat 3)], .inl fr, []), ([(.ofNat 0, .ofNat 3), (.ofNat 0, .ofNat 3), (.ofNat 1, .ofNat 4), (.ofNat 0, .ofNat 3)], .inl (.ofNat 8, .ofNat 8), [])], [])
def cg_X12_most_0 : List (Nat × AK) := [(424, ck_X12_isReaper_0), (427, ck_X12_isBarn_0), (116, ck_X12_in_13), (116, ck_X12_in_14), (478, ck_X12_laysCuts_36), (481, ck_X12_broughtBy_2)]
def ca_X12_most_0 : List (Nat × AA) := [(45, [(.ofNat 0, .ofNat 0), (.ofNat 0, .ofNat 3), (.ofNat 0, .ofNat 3), (.ofNat 1, .ofNat 4), (.negSucc 0, .ofNat 3), fr, (.ofNat 0, .ofNat 4)], [.inr (.inl [67]), .inl (1, .ofNat 0), .inl (2, .ofNat 0), .inl (3, .ofNat 0), .inl (4, .ofNat 0), .inl (5, .ofNat 0), .inl (6, .ofNat 0), .inr (.inr 0), .inr (.inr 0), .inr (.inr 0)], [], [], [(0, 5, 0), (0, 6, 0)], (.ofNat 12884901892, [.ofNat 0, .ofNat 0, .ofNat 0, .ofNat 0, .ofNat 0, .ofNat 0, .negSucc 0])), (76, [(.ofNat 0, .ofNat 0), (.ofNat 0, .ofNat 3), (.ofNat 0, .ofNat 3), (.ofNat 1, .ofNat 4), (.negSucc 0, .ofNat 3), fr, (.negSucc 0, .ofNat 2147483647), (.ofNat 0, .ofNat 2147483647)], [.inr (.inl [67]), .inl (1, .ofNat 0), .inl (2, .ofNat 0), .inl (3, .ofNat 0), .inl (4, .ofNat 0), .inl (5, .ofNat 0), .inl (6, .ofNat 0), .inl (7, .ofNat 0), .inr (.inr 0), .inr (.inr 0)], [], [], [(0, 5, 0), (0, 6, 0), (0, 7, 0)], (.ofNat 12884901887, [.ofNat 0, .ofNat 0, .ofNat 0, .ofNat 0, .ofNat 0, .ofNat 0, .ofNat 0, .negSucc 5])), (113, [(.ofNat 0, .ofNat 0), (.ofNat 0, .ofNat 3), (.ofNat 0, .ofNat 3), (.ofNat 1, .ofNat 4), (.negSucc 0, .ofNat 3), (.ofNat 1, .ofNat 2147483647), (.ofNat 0, .ofNat 2147483647), (.ofNat 0, .ofNat 2147483646), (.ofNat 0, .ofNat 2147483647), (.ofNat 0, .ofNat 4)], [.inr (.inl [67]), .inl (1, .ofNat 0), .inl (2, .ofNat 0), .inl (3, .ofNat 0), .inl (4, .ofNat 0), .inl (5, .ofNat 0), .inl (6, .ofNat 0), .inl (7, .ofNat 0), .inl (8, .ofNat 0), .inl (9, .ofNat 0)], [], [], [(0, 5, 0), (0, 6, 0), (0, 7, 0), (0, 8, 0), (0, 9, 0)], (.ofNat 12884901886, [.ofNat 0, .ofNat 0, .ofNat 0, .ofNat 0, .ofNat 0, .ofNat 0, .ofNat 0, .negSucc 5, .ofNat 0, .negSucc 0]))]
set_option maxRecDepth 100000 in
theorem cc_X12_most_0 : aChk QPl CF ck_X12_most_0 cg_X12_most_0 xxX12 mX12_most tX12_most ca_X12_most_0 [] 12884901893 = true := by decide +kernel
theorem cx_X12_most_0 : ctsO QQ CF xxX12 cg_X12_most_0 := ctsO_cons rfl ct_X12_isReaper_0 (ctsO_cons rfl ct_X12_isBarn_0 (ctsO_cons rfl ct_X12_in_13 (ctsO_cons rfl ct_X12_in_14 (ctsO_cons rfl ct_X12_laysCuts_36 (ctsO_cons rfl ct_X12_broughtBy_2 (ctsO_nil))))))
theorem ct_X12_most_0 : ctrO QQ CF ck_X12_most_0 mX12_most := chk_ok (Q := QQ) (QP := QPl) (C := CF) (c := ck_X12_most_0) (G := cg_X12_most_0) (X := xxX12) (M := mX12_most) (t := tX12_most) (anns := ca_X12_most_0) 12884901893 xx12 pl12 rfl kX12_most qq_ok cx_X12_most_0 cc_X12_most_0
def ck_X12_in_15 : AK := (1, [.inl fr, .inl (.ofNat 0, .ofNat 0), .inl (.ofNat 999, .ofNat 999)], [], false, [([(.ofNat 0, .ofNat 999), (.ofNat 0, .ofNat 0), (.ofNat 999, .ofNat 999)], .inl (.ofNat 1, .ofNat 1), []), ([fr, (.ofNat 0, .ofNat 0), (.ofNat 999, .ofNat 999)], .inl (.ofNat 0, .ofNat 0), [])], [])
def cg_X12_in_15 : List (Nat × AK) := []
def ca_X12_in_15 : List (Nat × AA) := []
set_option maxRecDepth 100000 in
theorem cc_X12_in_15 : aChk QPl CF ck_X12_in_15 cg_X12_in_15 xxX12 mX12_in tX12_in ca_X12_in_15 [] 1 = true := by decide +kernel
theorem cx_X12_in_15 : ctsO QQ CF xxX12 cg_X12_in_15 := ctsO_nil
theorem ct_X12_in_15 : ctrO QQ CF ck_X12_in_15 mX12_in := chk_ok (Q := QQ) (QP := QPl) (C := CF) (c := ck_X12_in_15) (G := cg_X12_in_15) (X := xxX12) (M := mX12_in) (t := tX12_in) (anns := ca_X12_in_15) 1 xx12 pl12 rfl kX12_in qq_ok cx_X12_in_15 cc_X12_in_15
def ck_X12_need_0 : AK := (2, [.inr (.inl [67]), .inl fr, .inl fr], [68], false, [([(.negSucc 0, .ofNat 999), fr], .inl (.ofNat 0, .ofNat 8), []), ([fr, fr], .inl (.negSucc 1, .negSucc 1), [])], [])
def cg_X12_need_0 : List (Nat × AK) := [(116, ck_X12_in_15), (116, ck_X12_in_5)]
def ca_X12_need_0 : List (Nat × AA) := []
set_option maxRecDepth 100000 in
theorem cc_X12_need_0 : aChk QPl CF ck_X12_need_0 cg_X12_need_0 xxX12 mX12_need tX12_need ca_X12_need_0 [] 1 = true := by decide +kernel
theorem cx_X12_need_0 : ctsO QQ CF xxX12 cg_X12_need_0 := ctsO_cons rfl ct_X12_in_15 (ctsO_cons rfl ct_X12_in_5 (ctsO_nil))
theorem ct_X12_need_0 : ctrO QQ CF ck_X12_need_0 mX12_need := chk_ok (Q := QQ) (QP := QPl) (C := CF) (c := ck_X12_need_0) (G := cg_X12_need_0) (X := xxX12) (M := mX12_need) (t := tX12_need) (anns := ca_X12_need_0) 1 xx12 pl12 rfl kX12_need qq_ok cx_X12_need_0 cc_X12_need_0
def ck_X12_unmet_0 : AK := (30, [.inr (.inl [67]), .inl fr], [91, 93], false, [([fr], .inl (.negSucc 0, .ofNat 7), [])], [])
def ck_X12_in_16 : AK := (1, [.inl fr, .inl (.ofNat 1, .ofNat 1), .inl (.ofNat 9999, .ofNat 9999)], [], false, [([(.ofNat 1, .ofNat 9999), (.ofNat 1, .ofNat 1), (.ofNat 9999, .ofNat 9999)], .inl (.ofNat 1, .ofNat 1), []), ([fr, (.ofNat 1, .ofNat 1), (.ofNat 9999, .ofNat 9999)], .inl (.ofNat 0, .ofNat 0), [])], [])
def cg_X12_in_16 : List (Nat × AK) := []
def ca_X12_in_16 : List (Nat × AA) := []
set_option maxRecDepth 100000 in
theorem cc_X12_in_16 : aChk QPl CF ck_X12_in_16 cg_X12_in_16 xxX12 mX12_in tX12_in ca_X12_in_16 [] 1 = true := by decide +kernel
theorem cx_X12_in_16 : ctsO QQ CF xxX12 cg_X12_in_16 := ctsO_nil
theorem ct_X12_in_16 : ctrO QQ CF ck_X12_in_16 mX12_in := chk_ok (Q := QQ) (QP := QPl) (C := CF) (c := ck_X12_in_16) (G := cg_X12_in_16) (X := xxX12) (M := mX12_in) (t := tX12_in) (anns := ca_X12_in_16) 1 xx12 pl12 rfl kX12_in qq_ok cx_X12_in_16 cc_X12_in_16
def ck_X12_in_17 : AK := (1, [.inl fr, .inl (.ofNat 0, .ofNat 0), .inl (.ofNat 60, .ofNat 60)], [], false, [([(.ofNat 0, .ofNat 60), (.ofNat 0, .ofNat 0), (.ofNat 60, .ofNat 60)], .inl (.ofNat 1, .ofNat 1), []), ([fr, (.ofNat 0, .ofNat 0), (.ofNat 60, .ofNat 60)], .inl (.ofNat 0, .ofNat 0), [])], [])
def cg_X12_in_17 : List (Nat × AK) := []
def ca_X12_in_17 : List (Nat × AA) := []
set_option maxRecDepth 100000 in
theorem cc_X12_in_17 : aChk QPl CF ck_X12_in_17 cg_X12_in_17 xxX12 mX12_in tX12_in ca_X12_in_17 [] 1 = true := by decide +kernel
theorem cx_X12_in_17 : ctsO QQ CF xxX12 cg_X12_in_17 := ctsO_nil
theorem ct_X12_in_17 : ctrO QQ CF ck_X12_in_17 mX12_in := chk_ok (Q := QQ) (QP := QPl) (C := CF) (c := ck_X12_in_17) (G := cg_X12_in_17) (X := xxX12) (M := mX12_in) (t := tX12_in) (anns := ca_X12_in_17) 1 xx12 pl12 rfl kX12_in qq_ok cx_X12_in_17 cc_X12_in_17
def ck_X12_has_0 : AK := (1, [.inl fr, .inl fr], [], false, [([fr, fr], .inl (.ofNat 1, .ofNat 1), []), ([fr, fr], .inl (.ofNat 0, .ofNat 0), [])], [])
def cg_X12_has_0 : List (Nat × AK) := []
def ca_X12_has_0 : List (Nat × AA) := []
set_option maxRecDepth 100000 in
theorem cc_X12_has_0 : aChk QPl CF ck_X12_has_0 cg_X12_has_0 xxX12 mX12_has tX12_has ca_X12_has_0 [] 1 = true := by decide +kernel
theorem cx_X12_has_0 : ctsO QQ CF xxX12 cg_X12_has_0 := ctsO_nil
theorem ct_X12_has_0 : ctrO QQ CF ck_X12_has_0 mX12_has := chk_ok (Q := QQ) (QP := QPl) (C := CF) (c := ck_X12_has_0) (G := cg_X12_has_0) (X := xxX12) (M := mX12_has) (t := tX12_has) (anns := ca_X12_has_0) 1 xx12 pl12 rfl kX12_has qq_ok cx_X12_has_0 cc_X12_has_0
def ck_X12_many_0 : AK := (1, [.inl (.ofNat 0, .ofNat 2147483647)], [], false, [([(.ofNat 0, .ofNat 2147483647)], .inl fr, [])], [])
set_option maxRecDepth 100000 in
set_option maxHeartbeats 1000000 in
theorem ct_X12_many_0 : ctrO QQ CF ck_X12_many_0 mX12_many := by
  intro l d sh I J as Rp ha hce hs hi hq hR
  obtain ⟨x, rfl, hx⟩ := agi ha
  obtain ⟨N, rfl, _, _, hN⟩ := nI_inI (a := 0) (b := 2147483647) hx (by decide)
  exact hm_many l d N hN sh I J Rp (fun r => hR _ sh I J hs (fun _ => rfl) hi hq (fun _ _ => rfl) ⟨_, List.mem_cons_self, one_post ha ⟨r, rfl, inI_fr _⟩⟩)
def ck_X12_enough_0 : AK := (13, [.inr (.inl [67]), .inl fr, .inl fr], [91, 93], false, [([fr, fr], .inl (.negSucc 0, .negSucc 0), []), ([(.ofNat 1, .ofNat 9999), (.ofNat 0, .ofNat 60)], .inl (.negSucc 0, .ofNat 4095), [])], [])
def cg_X12_enough_0 : List (Nat × AK) := [(116, ck_X12_in_16), (116, ck_X12_in_17), (408, ck_X12_laysNow_0), (442, ck_X12_passesThrough_1), (490, ck_X12_has_0), (493, ck_X12_many_0)]
def ca_X12_enough_0 : List (Nat × AA) := [(39, [(.ofNat 0, .ofNat 0), (.ofNat 1, .ofNat 9999), (.ofNat 0, .ofNat 60), (.negSucc 0, .ofNat 4095), (.negSucc 0, .ofNat 4095)], [.inr (.inl [67]), .inl (1, .ofNat 0), .inl (2, .ofNat 0), .inl (3, .ofNat 0), .inl (4, .ofNat 0), .inr (.inr 0), .inr (.inr 0), .inr (.inr 0)], [], [], [(0, 3, 0), (0, 4, 0)], (.ofNat 27, [.ofNat 0, .ofNat 0, .ofNat 0, .ofNat 0, .ofNat 14])), (53, [(.ofNat 0, .ofNat 0), (.ofNat 1, .ofNat 9999), (.ofNat 0, .ofNat 60), (.negSucc 0, .ofNat 4095), (.ofNat 0, .ofNat 4095), fr, (.ofNat 0, .ofNat 1), (.ofNat 0, .ofNat 12)], [.inr (.inl [67]), .inl (1, .ofNat 0), .inl (2, .ofNat 0), .inl (3, .ofNat 0), .inl (4, .ofNat 0), .inl (5, .ofNat 0), .inl (6, .ofNat 0), .inl (7, .ofNat 0)], [], [], [(0, 3, 0), (0, 4, 0), (0, 5, 0), (0, 6, 0), (0, 7, 0)], (.ofNat 26, [.ofNat 0, .ofNat 0, .ofNat 0, .ofNat 0, .ofNat 14, .ofNat 0, .ofNat 0, .negSucc 0]))]
set_option maxRecDepth 100000 in
theorem cc_X12_enough_0 : aChk QPl CF ck_X12_enough_0 cg_X12_enough_0 xxX12 mX12_enough tX12_enough ca_X12_enough_0 [] 57358 = true := by decide +kernel
theorem cx_X12_enough_0 : ctsO QQ CF xxX12 cg_X12_enough_0 := ctsO_cons rfl ct_X12_in_16 (ctsO_cons rfl ct_X12_in_17 (ctsO_cons rfl ct_X12_laysNow_0 (ctsO_cons rfl ct_X12_passesThrough_1 (ctsO_cons rfl ct_X12_has_0 (ctsO_cons rfl ct_X12_many_0 (ctsO_nil))))))
theorem ct_X12_enough_0 : ctrO QQ CF ck_X12_enough_0 mX12_enough := chk_ok (Q := QQ) (QP := QPl) (C := CF) (c := ck_X12_enough_0) (G := cg_X12_enough_0) (X := xxX12) (M := mX12_enough) (t := tX12_enough) (anns := ca_X12_enough_0) 57358 xx12 pl12 rfl kX12_enough qq_ok cx_X12_enough_0 cc_X12_enough_0
def ck_X12_in_18 : AK := (1, [.inl fr, .inl (.ofNat 1, .ofNat 1), .inl (.ofNat 8, .ofNat 8)], [], false, [([(.ofNat 1, .ofNat 8), (.ofNat 1, .ofNat 1), (.ofNat 8, .ofNat 8)], .inl (.ofNat 1, .ofNat 1), []), ([fr, (.ofNat 1, .ofNat 1), (.ofNat 8, .ofNat 8)], .inl (.ofNat 0, .ofNat 0), [])], [])
def cg_X12_in_18 : List (Nat × AK) := []
def ca_X12_in_18 : List (Nat × AA) := []
set_option maxRecDepth 100000 in
theorem cc_X12_in_18 : aChk QPl CF ck_X12_in_18 cg_X12_in_18 xxX12 mX12_in tX12_in ca_X12_in_18 [] 1 = true := by decide +kernel
theorem cx_X12_in_18 : ctsO QQ CF xxX12 cg_X12_in_18 := ctsO_nil
theorem ct_X12_in_18 : ctrO QQ CF ck_X12_in_18 mX12_in := chk_ok (Q := QQ) (QP := QPl) (C := CF) (c := ck_X12_in_18) (G := cg_X12_in_18) (X := xxX12) (M := mX12_in) (t := tX12_in) (anns := ca_X12_in_18) 1 xx12 pl12 rfl kX12_in qq_ok cx_X12_in_18 cc_X12_in_18
def ck_X12_in_19 : AK := (1, [.inl fr, .inl (.ofNat 0, .ofNat 0), .inl (.ofNat 9, .ofNat 9)], [], false, [([(.ofNat 0, .ofNat 9), (.ofNat 0, .ofNat 0), (.ofNat 9, .ofNat 9)], .inl (.ofNat 1, .ofNat 1), []), ([fr, (.ofNat 0, .ofNat 0), (.ofNat 9, .ofNat 9)], .inl (.ofNat 0, .ofNat 0), [])], [])
def cg_X12_in_19 : List (Nat × AK) := []
def ca_X12_in_19 : List (Nat × AA) := []
set_option maxRecDepth 100000 in
theorem cc_X12_in_19 : aChk QPl CF ck_X12_in_19 cg_X12_in_19 xxX12 mX12_in tX12_in ca_X12_in_19 [] 1 = true := by decide +kernel
theorem cx_X12_in_19 : ctsO QQ CF xxX12 cg_X12_in_19 := ctsO_nil
theorem ct_X12_in_19 : ctrO QQ CF ck_X12_in_19 mX12_in := chk_ok (Q := QQ) (QP := QPl) (C := CF) (c := ck_X12_in_19) (G := cg_X12_in_19) (X := xxX12) (M := mX12_in) (t := tX12_in) (anns := ca_X12_in_19) 1 xx12 pl12 rfl kX12_in qq_ok cx_X12_in_19 cc_X12_in_19
def ck_X12_givesBy_0 : AK := (10, [.inr (.inl [67]), .inl (.ofNat 0, .ofNat 7), .inl (.ofNat 1, .ofNat 8), .inl (.ofNat 0, .ofNat 9), .inl (.ofNat 0, .ofNat 0)], [91, 93], false, [([(.ofNat 0, .ofNat 7), (.ofNat 1, .ofNat 8), (.ofNat 0, .ofNat 9), (.ofNat 0, .ofNat 0)], .inl fr, [])], [])
def cg_X12_givesBy_0 : List (Nat × AK) := [(408, ck_X12_laysNow_0), (490, ck_X12_has_0), (372, ck_X12_longOf_0), (396, ck_X12_growsOf_0), (378, ck_X12_least_0)]
def ca_X12_givesBy_0 : List (Nat × AA) := [(18, [(.ofNat 0, .ofNat 0), (.ofNat 0, .ofNat 7), (.ofNat 1, .ofNat 8), (.ofNat 0, .ofNat 9), (.ofNat 0, .ofNat 0), fr, (.ofNat 0, .ofNat 8)], [.inr (.inl [67]), .inl (1, .ofNat 0), .inl (2, .ofNat 0), .inl (3, .ofNat 0), .inl (4, .ofNat 0), .inl (5, .ofNat 0), .inl (6, .ofNat 0)], [], [(93, 64, 3, .ofNat 0)], [(0, 5, 0), (0, 6, 0)], (.ofNat 8, [.ofNat 0, .ofNat 0, .ofNat 0, .ofNat 0, .ofNat 0, .ofNat 0, .negSucc 0]))]
set_option maxRecDepth 100000 in
theorem cc_X12_givesBy_0 : aChk QPl CF ck_X12_givesBy_0 cg_X12_givesBy_0 xxX12 mX12_givesBy tX12_givesBy ca_X12_givesBy_0 [] 9 = true := by decide +kernel
theorem cx_X12_givesBy_0 : ctsO QQ CF xxX12 cg_X12_givesBy_0 := ctsO_cons rfl ct_X12_laysNow_0 (ctsO_cons rfl ct_X12_has_0 (ctsO_cons rfl ct_X12_longOf_0 (ctsO_cons rfl ct_X12_growsOf_0 (ctsO_cons rfl ct_X12_least_0 (ctsO_nil)))))
theorem ct_X12_givesBy_0 : ctrO QQ CF ck_X12_givesBy_0 mX12_givesBy := chk_ok (Q := QQ) (QP := QPl) (C := CF) (c := ck_X12_givesBy_0) (G := cg_X12_givesBy_0) (X := xxX12) (M := mX12_givesBy) (t := tX12_givesBy) (anns := ca_X12_givesBy_0) 9 xx12 pl12 rfl kX12_givesBy qq_ok cx_X12_givesBy_0 cc_X12_givesBy_0
def ck_X12_givesBy_1 : AK := (10, [.inr (.inl [67]), .inl (.ofNat 0, .ofNat 7), .inl (.ofNat 1, .ofNat 8), .inl (.ofNat 0, .ofNat 9), .inl (.ofNat 0, .ofNat 1)], [91, 93], false, [([(.ofNat 0, .ofNat 7), (.ofNat 1, .ofNat 8), (.ofNat 0, .ofNat 9), (.ofNat 0, .ofNat 1)], .inl fr, [])], [])
def cg_X12_givesBy_1 : List (Nat × AK) := [(408, ck_X12_laysNow_0), (490, ck_X12_has_0), (372, ck_X12_longOf_0), (396, ck_X12_growsOf_0), (378, ck_X12_least_0)]
def ca_X12_givesBy_1 : List (Nat × AA) := [(18, [(.ofNat 0, .ofNat 0), (.ofNat 0, .ofNat 7), (.ofNat 1, .ofNat 8), (.ofNat 0, .ofNat 9), (.ofNat 0, .ofNat 1), fr, (.ofNat 0, .ofNat 8)], [.inr (.inl [67]), .inl (1, .ofNat 0), .inl (2, .ofNat 0), .inl (3, .ofNat 0), .inl (4, .ofNat 0), .inl (5, .ofNat 0), .inl (6, .ofNat 0)], [], [(93, 64, 3, .ofNat 0)], [(0, 5, 0), (0, 6, 0)], (.ofNat 8, [.ofNat 0, .ofNat 0, .ofNat 0, .ofNat 0, .ofNat 0, .ofNat 0, .negSucc 0]))]
set_option maxRecDepth 100000 in
theorem cc_X12_givesBy_1 : aChk QPl CF ck_X12_givesBy_1 cg_X12_givesBy_1 xxX12 mX12_givesBy tX12_givesBy ca_X12_givesBy_1 [] 9 = true := by decide +kernel
theorem cx_X12_givesBy_1 : ctsO QQ CF xxX12 cg_X12_givesBy_1 := ctsO_cons rfl ct_X12_laysNow_0 (ctsO_cons rfl ct_X12_has_0 (ctsO_cons rfl ct_X12_longOf_0 (ctsO_cons rfl ct_X12_growsOf_0 (ctsO_cons rfl ct_X12_least_0 (ctsO_nil)))))
theorem ct_X12_givesBy_1 : ctrO QQ CF ck_X12_givesBy_1 mX12_givesBy := chk_ok (Q := QQ) (QP := QPl) (C := CF) (c := ck_X12_givesBy_1) (G := cg_X12_givesBy_1) (X := xxX12) (M := mX12_givesBy) (t := tX12_givesBy) (anns := ca_X12_givesBy_1) 9 xx12 pl12 rfl kX12_givesBy qq_ok cx_X12_givesBy_1 cc_X12_givesBy_1
def ck_X12_givesBy_2 : AK := (10, [.inr (.inl [67]), .inl (.ofNat 0, .ofNat 7), .inl (.ofNat 1, .ofNat 8), .inl (.ofNat 0, .ofNat 9), .inl (.ofNat 0, .ofNat 2)], [91, 93], false, [([(.ofNat 0, .ofNat 7), (.ofNat 1, .ofNat 8), (.ofNat 0, .ofNat 9), (.ofNat 0, .ofNat 2)], .inl fr, [])], [])
def cg_X12_givesBy_2 : List (Nat × AK) := [(408, ck_X12_laysNow_0), (490, ck_X12_has_0), (372, ck_X12_longOf_0), (396, ck_X12_growsOf_0), (378, ck_X12_least_0)]
def ca_X12_givesBy_2 : List (Nat × AA) := [(18, [(.ofNat 0, .ofNat 0), (.ofNat 0, .ofNat 7), (.ofNat 1, .ofNat 8), (.ofNat 0, .ofNat 9), (.ofNat 0, .ofNat 2), fr, (.ofNat 0, .ofNat 8)], [.inr (.inl [67]), .inl (1, .ofNat 0), .inl (2, .ofNat 0), .inl (3, .ofNat 0), .inl (4, .ofNat 0), .inl (5, .ofNat 0), .inl (6, .ofNat 0)], [], [(93, 64, 3, .ofNat 0)], [(0, 5, 0), (0, 6, 0)], (.ofNat 8, [.ofNat 0, .ofNat 0, .ofNat 0, .ofNat 0, .ofNat 0, .ofNat 0, .negSucc 0]))]
set_option maxRecDepth 100000 in
theorem cc_X12_givesBy_2 : aChk QPl CF ck_X12_givesBy_2 cg_X12_givesBy_2 xxX12 mX12_givesBy tX12_givesBy ca_X12_givesBy_2 [] 9 = true := by decide +kernel
theorem cx_X12_givesBy_2 : ctsO QQ CF xxX12 cg_X12_givesBy_2 := ctsO_cons rfl ct_X12_laysNow_0 (ctsO_cons rfl ct_X12_has_0 (ctsO_cons rfl ct_X12_longOf_0 (ctsO_cons rfl ct_X12_growsOf_0 (ctsO_cons rfl ct_X12_least_0 (ctsO_nil)))))
theorem ct_X12_givesBy_2 : ctrO QQ CF ck_X12_givesBy_2 mX12_givesBy := chk_ok (Q := QQ) (QP := QPl) (C := CF) (c := ck_X12_givesBy_2) (G := cg_X12_givesBy_2) (X := xxX12) (M := mX12_givesBy) (t := tX12_givesBy) (anns := ca_X12_givesBy_2) 9 xx12 pl12 rfl kX12_givesBy qq_ok cx_X12_givesBy_2 cc_X12_givesBy_2
def ck_X12_givesBy_3 : AK := (10, [.inr (.inl [67]), .inl (.ofNat 0, .ofNat 7), .inl (.ofNat 1, .ofNat 8), .inl (.ofNat 0, .ofNat 9), .inl (.ofNat 0, .ofNat 3)], [91, 93], false, [([(.ofNat 0, .ofNat 7), (.ofNat 1, .ofNat 8), (.ofNat 0, .ofNat 9), (.ofNat 0, .ofNat 3)], .inl fr, [])], [])
def cg_X12_givesBy_3 : List (Nat × AK) := [(408, ck_X12_laysNow_0), (490, ck_X12_has_0), (372, ck_X12_longOf_0), (396, ck_X12_growsOf_0), (378, ck_X12_least_0)]
def ca_X12_givesBy_3 : List (Nat × AA) := [(18, [(.ofNat 0, .ofNat 0), (.ofNat 0, .ofNat 7), (.ofNat 1, .ofNat 8), (.ofNat 0, .ofNat 9), (.ofNat 0, .ofNat 3), fr, (.ofNat 0, .ofNat 8)], [.inr (.inl [67]), .inl (1, .ofNat 0), .inl (2, .ofNat 0), .inl (3, .ofNat 0), .inl (4, .ofNat 0), .inl (5, .ofNat 0), .inl (6, .ofNat 0)], [], [(93, 64, 3, .ofNat 0)], [(0, 5, 0), (0, 6, 0)], (.ofNat 8, [.ofNat 0, .ofNat 0, .ofNat 0, .ofNat 0, .ofNat 0, .ofNat 0, .negSucc 0]))]
set_option maxRecDepth 100000 in
theorem cc_X12_givesBy_3 : aChk QPl CF ck_X12_givesBy_3 cg_X12_givesBy_3 xxX12 mX12_givesBy tX12_givesBy ca_X12_givesBy_3 [] 9 = true := by decide +kernel
theorem cx_X12_givesBy_3 : ctsO QQ CF xxX12 cg_X12_givesBy_3 := ctsO_cons rfl ct_X12_laysNow_0 (ctsO_cons rfl ct_X12_has_0 (ctsO_cons rfl ct_X12_longOf_0 (ctsO_cons rfl ct_X12_growsOf_0 (ctsO_cons rfl ct_X12_least_0 (ctsO_nil)))))
theorem ct_X12_givesBy_3 : ctrO QQ CF ck_X12_givesBy_3 mX12_givesBy := chk_ok (Q := QQ) (QP := QPl) (C := CF) (c := ck_X12_givesBy_3) (G := cg_X12_givesBy_3) (X := xxX12) (M := mX12_givesBy) (t := tX12_givesBy) (anns := ca_X12_givesBy_3) 9 xx12 pl12 rfl kX12_givesBy qq_ok cx_X12_givesBy_3 cc_X12_givesBy_3
def ck_X12_givesBy_4 : AK := (10, [.inr (.inl [67]), .inl (.ofNat 0, .ofNat 7), .inl (.ofNat 1, .ofNat 8), .inl (.ofNat 0, .ofNat 9), .inl (.ofNat 0, .ofNat 4)], [91, 93], false, [([(.ofNat 0, .ofNat 7), (.ofNat 1, .ofNat 8), (.ofNat 0, .ofNat 9), (.ofNat 0, .ofNat 4)], .inl fr, [])], [])
def cg_X12_givesBy_4 : List (Nat × AK) := [(408, ck_X12_laysNow_0), (490, ck_X12_has_0), (372, ck_X12_longOf_0), (396, ck_X12_growsOf_0), (378, ck_X12_least_0)]
def ca_X12_givesBy_4 : List (Nat × AA) := [(18, [(.ofNat 0, .ofNat 0), (.ofNat 0, .ofNat 7), (.ofNat 1, .ofNat 8), (.ofNat 0, .ofNat 9), (.ofNat 0, .ofNat 4), fr, (.ofNat 0, .ofNat 8)], [.inr (.inl [67]), .inl (1, .ofNat 0), .inl (2, .ofNat 0), .inl (3, .ofNat 0), .inl (4, .ofNat 0), .inl (5, .ofNat 0), .inl (6, .ofNat 0)], [], [(93, 64, 3, .ofNat 0)], [(0, 5, 0), (0, 6, 0)], (.ofNat 8, [.ofNat 0, .ofNat 0, .ofNat 0, .ofNat 0, .ofNat 0, .ofNat 0, .negSucc 0]))]
set_option maxRecDepth 100000 in
theorem cc_X12_givesBy_4 : aChk QPl CF ck_X12_givesBy_4 cg_X12_givesBy_4 xxX12 mX12_givesBy tX12_givesBy ca_X12_givesBy_4 [] 9 = true := by decide +kernel
theorem cx_X12_givesBy_4 : ctsO QQ CF xxX12 cg_X12_givesBy_4 := ctsO_cons rfl ct_X12_laysNow_0 (ctsO_cons rfl ct_X12_has_0 (ctsO_cons rfl ct_X12_longOf_0 (ctsO_cons rfl ct_X12_growsOf_0 (ctsO_cons rfl ct_X12_least_0 (ctsO_nil)))))
theorem ct_X12_givesBy_4 : ctrO QQ CF ck_X12_givesBy_4 mX12_givesBy := chk_ok (Q := QQ) (QP := QPl) (C := CF) (c := ck_X12_givesBy_4) (G := cg_X12_givesBy_4) (X := xxX12) (M := mX12_givesBy) (t := tX12_givesBy) (anns := ca_X12_givesBy_4) 9 xx12 pl12 rfl kX12_givesBy qq_ok cx_X12_givesBy_4 cc_X12_givesBy_4
def ck_X12_givesBy_5 : AK := (10, [.inr (.inl [67]), .inl (.ofNat 0, .ofNat 7), .inl (.ofNat 1, .ofNat 8), .inl (.ofNat 0, .ofNat 9), .inl (.ofNat 0, .ofNat 5)], [91, 93], false, [([(.ofNat 0, .ofNat 7), (.ofNat 1, .ofNat 8), (.ofNat 0, .ofNat 9), (.ofNat 0, .ofNat 5)], .inl fr, [])], [])
def cg_X12_givesBy_5 : List (Nat × AK) := [(408, ck_X12_laysNow_0), (490, ck_X12_has_0), (372, ck_X12_longOf_0), (396, ck_X12_growsOf_0), (378, ck_X12_least_0)]
def ca_X12_givesBy_5 : List (Nat × AA) := [(18, [(.ofNat 0, .ofNat 0), (.ofNat 0, .ofNat 7), (.ofNat 1, .ofNat 8), (.ofNat 0, .ofNat 9), (.ofNat 0, .ofNat 5), fr, (.ofNat 0, .ofNat 8)], [.inr (.inl [67]), .inl (1, .ofNat 0), .inl (2, .ofNat 0), .inl (3, .ofNat 0), .inl (4, .ofNat 0), .inl (5, .ofNat 0), .inl (6, .ofNat 0)], [], [(93, 64, 3, .ofNat 0)], [(0, 5, 0), (0, 6, 0)], (.ofNat 8, [.ofNat 0, .ofNat 0, .ofNat 0, .ofNat 0, .ofNat 0, .ofNat 0, .negSucc 0]))]
set_option maxRecDepth 100000 in
theorem cc_X12_givesBy_5 : aChk QPl CF ck_X12_givesBy_5 cg_X12_givesBy_5 xxX12 mX12_givesBy tX12_givesBy ca_X12_givesBy_5 [] 9 = true := by decide +kernel
theorem cx_X12_givesBy_5 : ctsO QQ CF xxX12 cg_X12_givesBy_5 := ctsO_cons rfl ct_X12_laysNow_0 (ctsO_cons rfl ct_X12_has_0 (ctsO_cons rfl ct_X12_longOf_0 (ctsO_cons rfl ct_X12_growsOf_0 (ctsO_cons rfl ct_X12_least_0 (ctsO_nil)))))
theorem ct_X12_givesBy_5 : ctrO QQ CF ck_X12_givesBy_5 mX12_givesBy := chk_ok (Q := QQ) (QP := QPl) (C := CF) (c := ck_X12_givesBy_5) (G := cg_X12_givesBy_5) (X := xxX12) (M := mX12_givesBy) (t := tX12_givesBy) (anns := ca_X12_givesBy_5) 9 xx12 pl12 rfl kX12_givesBy qq_ok cx_X12_givesBy_5 cc_X12_givesBy_5
def ck_X12_givesBy_6 : AK := (10, [.inr (.inl [67]), .inl (.ofNat 0, .ofNat 7), .inl (.ofNat 1, .ofNat 8), .inl (.ofNat 0, .ofNat 9), .inl (.ofNat 0, .ofNat 6)], [91, 93], false, [([(.ofNat 0, .ofNat 7), (.ofNat 1, .ofNat 8), (.ofNat 0, .ofNat 9), (.ofNat 0, .ofNat 6)], .inl fr, [])], [])
def cg_X12_givesBy_6 : List (Nat × AK) := [(408, ck_X12_laysNow_0), (490, ck_X12_has_0), (372, ck_X12_longOf_0), (396, ck_X12_growsOf_0), (378, ck_X12_least_0)]
def ca_X12_givesBy_6 : List (Nat × AA) := [(18, [(.ofNat 0, .ofNat 0), (.ofNat 0, .ofNat 7), (.ofNat 1, .ofNat 8), (.ofNat 0, .ofNat 9), (.ofNat 0, .ofNat 6), fr, (.ofNat 0, .ofNat 8)], [.inr (.inl [67]), .inl (1, .ofNat 0), .inl (2, .ofNat 0), .inl (3, .ofNat 0), .inl (4, .ofNat 0), .inl (5, .ofNat 0), .inl (6, .ofNat 0)], [], [(93, 64, 3, .ofNat 0)], [(0, 5, 0), (0, 6, 0)], (.ofNat 8, [.ofNat 0, .ofNat 0, .ofNat 0, .ofNat 0, .ofNat 0, .ofNat 0, .negSucc 0]))]
set_option maxRecDepth 100000 in
theorem cc_X12_givesBy_6 : aChk QPl CF ck_X12_givesBy_6 cg_X12_givesBy_6 xxX12 mX12_givesBy tX12_givesBy ca_X12_givesBy_6 [] 9 = true := by decide +kernel
theorem cx_X12_givesBy_6 : ctsO QQ CF xxX12 cg_X12_givesBy_6 := ctsO_cons rfl ct_X12_laysNow_0 (ctsO_cons rfl ct_X12_has_0 (ctsO_cons rfl ct_X12_longOf_0 (ctsO_cons rfl ct_X12_growsOf_0 (ctsO_cons rfl ct_X12_least_0 (ctsO_nil)))))
theorem ct_X12_givesBy_6 : ctrO QQ CF ck_X12_givesBy_6 mX12_givesBy := chk_ok (Q := QQ) (QP := QPl) (C := CF) (c := ck_X12_givesBy_6) (G := cg_X12_givesBy_6) (X := xxX12) (M := mX12_givesBy) (t := tX12_givesBy) (anns := ca_X12_givesBy_6) 9 xx12 pl12 rfl kX12_givesBy qq_ok cx_X12_givesBy_6 cc_X12_givesBy_6
def ck_X12_givesBy_7 : AK := (10, [.inr (.inl [67]), .inl (.ofNat 0, .ofNat 7), .inl (.ofNat 1, .ofNat 8), .inl (.ofNat 0, .ofNat 9), .inl (.ofNat 0, .ofNat 7)], [91, 93], false, [([(.ofNat 0, .ofNat 7), (.ofNat 1, .ofNat 8), (.ofNat 0, .ofNat 9), (.ofNat 0, .ofNat 7)], .inl fr, [])], [])
def cg_X12_givesBy_7 : List (Nat × AK) := [(408, ck_X12_laysNow_0), (490, ck_X12_has_0), (372, ck_X12_longOf_0), (396, ck_X12_growsOf_0), (378, ck_X12_least_0)]
def ca_X12_givesBy_7 : List (Nat × AA) := [(18, [(.ofNat 0, .ofNat 0), (.ofNat 0, .ofNat 7), (.ofNat 1, .ofNat 8), (.ofNat 0, .ofNat 9), (.ofNat 0, .ofNat 7), fr, (.ofNat 0, .ofNat 8)], [.inr (.inl [67]), .inl (1, .ofNat 0), .inl (2, .ofNat 0), .inl (3, .ofNat 0), .inl (4, .ofNat 0), .inl (5, .ofNat 0), .inl (6, .ofNat 0)], [], [(93, 64, 3, .ofNat 0)], [(0, 5, 0), (0, 6, 0)], (.ofNat 8, [.ofNat 0, .ofNat 0, .ofNat 0, .ofNat 0, .ofNat 0, .ofNat 0, .negSucc 0]))]
set_option maxRecDepth 100000 in
theorem cc_X12_givesBy_7 : aChk QPl CF ck_X12_givesBy_7 cg_X12_givesBy_7 xxX12 mX12_givesBy tX12_givesBy ca_X12_givesBy_7 [] 9 = true := by decide +kernel
theorem cx_X12_givesBy_7 : ctsO QQ CF xxX12 cg_X12_givesBy_7 := ctsO_cons rfl ct_X12_laysNow_0 (ctsO_cons rfl ct_X12_has_0 (ctsO_cons rfl ct_X12_longOf_0 (ctsO_cons rfl ct_X12_growsOf_0 (ctsO_cons rfl ct_X12_least_0 (ctsO_nil)))))
theorem ct_X12_givesBy_7 : ctrO QQ CF ck_X12_givesBy_7 mX12_givesBy := chk_ok (Q := QQ) (QP := QPl) (C := CF) (c := ck_X12_givesBy_7) (G := cg_X12_givesBy_7) (X := xxX12) (M := mX12_givesBy) (t := tX12_givesBy) (anns := ca_X12_givesBy_7) 9 xx12 pl12 rfl kX12_givesBy qq_ok cx_X12_givesBy_7 cc_X12_givesBy_7
def ck_X12_givesBy_8 : AK := (10, [.inr (.inl [67]), .inl (.ofNat 0, .ofNat 7), .inl (.ofNat 1, .ofNat 8), .inl (.ofNat 0, .ofNat 9), .inl (.ofNat 0, .ofNat 8)], [91, 93], false, [([(.ofNat 0, .ofNat 7), (.ofNat 1, .ofNat 8), (.ofNat 0, .ofNat 9), (.ofNat 0, .ofNat 8)], .inl fr, [])], [])
def cg_X12_givesBy_8 : List (Nat × AK) := [(408, ck_X12_laysNow_0), (490, ck_X12_has_0), (372, ck_X12_longOf_0), (396, ck_X12_growsOf_0), (378, ck_X12_least_0)]
def ca_X12_givesBy_8 : List (Nat × AA) := [(18, [(.ofNat 0, .ofNat 0), (.ofNat 0, .ofNat 7), (.ofNat 1, .ofNat 8), (.ofNat 0, .ofNat 9), (.ofNat 0, .ofNat 8), fr, (.ofNat 0, .ofNat 8)], [.inr (.inl [67]), .inl (1, .ofNat 0), .inl (2, .ofNat 0), .inl (3, .ofNat 0), .inl (4, .ofNat 0), .inl (5, .ofNat 0), .inl (6, .ofNat 0)], [], [(93, 64, 3, .ofNat 0)], [(0, 5, 0), (0, 6, 0)], (.ofNat 8, [.ofNat 0, .ofNat 0, .ofNat 0, .ofNat 0, .ofNat 0, .ofNat 0, .negSucc 0]))]
set_option maxRecDepth 100000 in
theorem cc_X12_givesBy_8 : aChk QPl CF ck_X12_givesBy_8 cg_X12_givesBy_8 xxX12 mX12_givesBy tX12_givesBy ca_X12_givesBy_8 [] 9 = true := by decide +kernel
theorem cx_X12_givesBy_8 : ctsO QQ CF xxX12 cg_X12_givesBy_8 := ctsO_cons rfl ct_X12_laysNow_0 (ctsO_cons rfl ct_X12_has_0 (ctsO_cons rfl ct_X12_longOf_0 (ctsO_cons rfl ct_X12_growsOf_0 (ctsO_cons rfl ct_X12_least_0 (ctsO_nil)))))
theorem ct_X12_givesBy_8 : ctrO QQ CF ck_X12_givesBy_8 mX12_givesBy := chk_ok (Q := QQ) (QP := QPl) (C := CF) (c := ck_X12_givesBy_8) (G := cg_X12_givesBy_8) (X := xxX12) (M := mX12_givesBy) (t := tX12_givesBy) (anns := ca_X12_givesBy_8) 9 xx12 pl12 rfl kX12_givesBy qq_ok cx_X12_givesBy_8 cc_X12_givesBy_8
def ck_X12_givesBy_9 : AK := (10, [.inr (.inl [67]), .inl (.ofNat 0, .ofNat 7), .inl (.ofNat 1, .ofNat 8), .inl (.ofNat 0, .ofNat 9), .inl (.ofNat 0, .ofNat 9)], [91, 93], false, [([(.ofNat 0, .ofNat 7), (.ofNat 1, .ofNat 8), (.ofNat 0, .ofNat 9), (.ofNat 0, .ofNat 9)], .inl fr, [])], [])
def cg_X12_givesBy_9 : List (Nat × AK) := [(408, ck_X12_laysNow_0), (490, ck_X12_has_0), (372, ck_X12_longOf_0), (396, ck_X12_growsOf_0), (378, ck_X12_least_0)]
def ca_X12_givesBy_9 : List (Nat × AA) := [(18, [(.ofNat 0, .ofNat 0), (.ofNat 0, .ofNat 7), (.ofNat 1, .ofNat 8), (.ofNat 0, .ofNat 9), (.ofNat 0, .ofNat 9), fr, (.ofNat 0, .ofNat 8)], [.inr (.inl [67]), .inl (1, .ofNat 0), .inl (2, .ofNat 0), .inl (3, .ofNat 0), .inl (4, .ofNat 0), .inl (5, .ofNat 0), .inl (6, .ofNat 0)], [], [(93, 64, 3, .ofNat 0)], [(0, 5, 0), (0, 6, 0)], (.ofNat 8, [.ofNat 0, .ofNat 0, .ofNat 0, .ofNat 0, .ofNat 0, .ofNat 0, .negSucc 0]))]
set_option maxRecDepth 100000 in
theorem cc_X12_givesBy_9 : aChk QPl CF ck_X12_givesBy_9 cg_X12_givesBy_9 xxX12 mX12_givesBy tX12_givesBy ca_X12_givesBy_9 [] 9 = true := by decide +kernel
theorem cx_X12_givesBy_9 : ctsO QQ CF xxX12 cg_X12_givesBy_9 := ctsO_cons rfl ct_X12_laysNow_0 (ctsO_cons rfl ct_X12_has_0 (ctsO_cons rfl ct_X12_longOf_0 (ctsO_cons rfl ct_X12_growsOf_0 (ctsO_cons rfl ct_X12_least_0 (ctsO_nil)))))
theorem ct_X12_givesBy_9 : ctrO QQ CF ck_X12_givesBy_9 mX12_givesBy := chk_ok (Q := QQ) (QP := QPl) (C := CF) (c := ck_X12_givesBy_9) (G := cg_X12_givesBy_9) (X := xxX12) (M := mX12_givesBy) (t := tX12_givesBy) (anns := ca_X12_givesBy_9) 9 xx12 pl12 rfl kX12_givesBy qq_ok cx_X12_givesBy_9 cc_X12_givesBy_9
def ck_X12_givesBy_10 : AK := (10, [.inr (.inl [67]), .inl (.ofNat 0, .ofNat 7), .inl (.ofNat 1, .ofNat 8), .inl (.ofNat 0, .ofNat 9), .inl (.ofNat 0, .ofNat 10)], [91, 93], false, [([(.ofNat 0, .ofNat 7), (.ofNat 1, .ofNat 8), (.ofNat 0, .ofNat 9), (.ofNat 0, .ofNat 10)], .inl fr, [])], [])
def cg_X12_givesBy_10 : List (Nat × AK) := [(408, ck_X12_laysNow_0), (490, ck_X12_has_0), (372, ck_X12_longOf_0), (396, ck_X12_growsOf_0), (378, ck_X12_least_0)]
def ca_X12_givesBy_10 : List (Nat × AA) := [(18, [(.ofNat 0, .ofNat 0), (.ofNat 0, .ofNat 7), (.ofNat 1, .ofNat 8), (.ofNat 0, .ofNat 9), (.ofNat 0, .ofNat 10), fr, (.ofNat 0, .ofNat 8)], [.inr (.inl [67]), .inl (1, .ofNat 0), .inl (2, .ofNat 0), .inl (3, .ofNat 0), .inl (4, .ofNat 0), .inl (5, .ofNat 0), .inl (6, .ofNat 0)], [], [(93, 64, 3, .ofNat 0)], [(0, 5, 0), (0, 6, 0)], (.ofNat 8, [.ofNat 0, .ofNat 0, .ofNat 0, .ofNat 0, .ofNat 0, .ofNat 0, .negSucc 0]))]
set_option maxRecDepth 100000 in
theorem cc_X12_givesBy_10 : aChk QPl CF ck_X12_givesBy_10 cg_X12_givesBy_10 xxX12 mX12_givesBy tX12_givesBy ca_X12_givesBy_10 [] 9 = true := by decide +kernel
theorem cx_X12_givesBy_10 : ctsO QQ CF xxX12 cg_X12_givesBy_10 := ctsO_cons rfl ct_X12_laysNow_0 (ctsO_cons rfl ct_X12_has_0 (ctsO_cons rfl ct_X12_longOf_0 (ctsO_cons rfl ct_X12_growsOf_0 (ctsO_cons rfl ct_X12_least_0 (ctsO_nil)))))
theorem ct_X12_givesBy_10 : ctrO QQ CF ck_X12_givesBy_10 mX12_givesBy := chk_ok (Q := QQ) (QP := QPl) (C := CF) (c := ck_X12_givesBy_10) (G := cg_X12_givesBy_10) (X := xxX12) (M := mX12_givesBy) (t := tX12_givesBy) (anns := ca_X12_givesBy_10) 9 xx12 pl12 rfl kX12_givesBy qq_ok cx_X12_givesBy_10 cc_X12_givesBy_10
def ck_X12_givesBy_11 : AK := (10, [.inr (.inl [67]), .inl (.ofNat 0, .ofNat 7), .inl (.ofNat 1, .ofNat 8), .inl (.ofNat 0, .ofNat 9), .inl (.ofNat 0, .ofNat 11)], [91, 93], false, [([(.ofNat 0, .ofNat 7), (.ofNat 1, .ofNat 8), (.ofNat 0, .ofNat 9), (.ofNat 0, .ofNat 11)], .inl fr, [])], [])
def cg_X12_givesBy_11 : List (Nat × AK) := [(408, ck_X12_laysNow_0), (490, ck_X12_has_0), (372, ck_X12_longOf_0), (396, ck_X12_growsOf_0), (378, ck_X12_least_0)]
def ca_X12_givesBy_11 : List (Nat × AA) := [(18, [(.ofNat 0, .ofNat 0), (.ofNat 0, .ofNat 7), (.ofNat 1, .ofNat 8), (.ofNat 0, .ofNat 9), (.ofNat 0, .ofNat 11), fr, (.ofNat 0, .ofNat 8)], [.inr (.inl [67]), .inl (1, .ofNat 0), .inl (2, .ofNat 0), .inl (3, .ofNat 0), .inl (4, .ofNat 0), .inl (5, .ofNat 0), .inl (6, .ofNat 0)], [], [(93, 64, 3, .ofNat 0)], [(0, 5, 0), (0, 6, 0)], (.ofNat 8, [.ofNat 0, .ofNat 0, .ofNat 0, .ofNat 0, .ofNat 0, .ofNat 0, .negSucc 0]))]
set_option maxRecDepth 100000 in
theorem cc_X12_givesBy_11 : aChk QPl CF ck_X12_givesBy_11 cg_X12_givesBy_11 xxX12 mX12_givesBy tX12_givesBy ca_X12_givesBy_11 [] 9 = true := by decide +kernel
theorem cx_X12_givesBy_11 : ctsO QQ CF xxX12 cg_X12_givesBy_11 := ctsO_cons rfl ct_X12_laysNow_0 (ctsO_cons rfl ct_X12_has_0 (ctsO_cons rfl ct_X12_longOf_0 (ctsO_cons rfl ct_X12_growsOf_0 (ctsO_cons rfl ct_X12_least_0 (ctsO_nil)))))
theorem ct_X12_givesBy_11 : ctrO QQ CF ck_X12_givesBy_11 mX12_givesBy := chk_ok (Q := QQ) (QP := QPl) (C := CF) (c := ck_X12_givesBy_11) (G := cg_X12_givesBy_11) (X := xxX12) (M := mX12_givesBy) (t := tX12_givesBy) (anns := ca_X12_givesBy_11) 9 xx12 pl12 rfl kX12_givesBy qq_ok cx_X12_givesBy_11 cc_X12_givesBy_11
def ck_X12_givesBy_12 : AK := (10, [.inr (.inl [67]), .inl (.ofNat 0, .ofNat 7), .inl (.ofNat 1, .ofNat 8), .inl (.ofNat 0, .ofNat 9), .inl (.ofNat 0, .ofNat 23)], [91, 93], false, [([(.ofNat 0, .ofNat 7), (.ofNat 1, .ofNat 8), (.ofNat 0, .ofNat 9), (.ofNat 0, .ofNat 23)], .inl fr, [])], [])
def cg_X12_givesBy_12 : List (Nat × AK) := [(408, ck_X12_laysNow_0), (490, ck_X12_has_0), (372, ck_X12_longOf_0), (396, ck_X12_growsOf_0), (378, ck_X12_least_0)]
def ca_X12_givesBy_12 : List (Nat × AA) := [(18, [(.ofNat 0, .ofNat 0), (.ofNat 0, .ofNat 7), (.ofNat 1, .ofNat 8), (.ofNat 0, .ofNat 9), (.ofNat 0, .ofNat 23), fr, (.ofNat 0, .ofNat 8)], [.inr (.inl [67]), .inl (1, .ofNat 0), .inl (2, .ofNat 0), .inl (3, .ofNat 0), .inl (4, .ofNat 0), .inl (5, .ofNat 0), .inl (6, .ofNat 0)], [], [(93, 64, 3, .ofNat 0)], [(0, 5, 0), (0, 6, 0)], (.ofNat 8, [.ofNat 0, .ofNat 0, .ofNat 0, .ofNat 0, .ofNat 0, .ofNat 0, .negSucc 0]))]
set_option maxRecDepth 100000 in
theorem cc_X12_givesBy_12 : aChk QPl CF ck_X12_givesBy_12 cg_X12_givesBy_12 xxX12 mX12_givesBy tX12_givesBy ca_X12_givesBy_12 [] 9 = true := by decide +kernel
theorem cx_X12_givesBy_12 : ctsO QQ CF xxX12 cg_X12_givesBy_12 := ctsO_cons rfl ct_X12_laysNow_0 (ctsO_cons rfl ct_X12_has_0 (ctsO_cons rfl ct_X12_longOf_0 (ctsO_cons rfl ct_X12_growsOf_0 (ctsO_cons rfl ct_X12_least_0 (ctsO_nil)))))
theorem ct_X12_givesBy_12 : ctrO QQ CF ck_X12_givesBy_12 mX12_givesBy := chk_ok (Q := QQ) (QP := QPl) (C := CF) (c := ck_X12_givesBy_12) (G := cg_X12_givesBy_12) (X := xxX12) (M := mX12_givesBy) (t := tX12_givesBy) (anns := ca_X12_givesBy_12) 9 xx12 pl12 rfl kX12_givesBy qq_ok cx_X12_givesBy_12 cc_X12_givesBy_12
def ck_X12_givesBy_13 : AK := (10, [.inr (.inl [67]), .inl (.ofNat 0, .ofNat 7), .inl (.ofNat 1, .ofNat 8), .inl (.ofNat 0, .ofNat 9), .inl (.ofNat 0, .ofNat 24)], [91, 93], false, [([(.ofNat 0, .ofNat 7), (.ofNat 1, .ofNat 8), (.ofNat 0, .ofNat 9), (.ofNat 0, .ofNat 24)], .inl fr, [])], [])
def cg_X12_givesBy_13 : List (Nat × AK) := [(408, ck_X12_laysNow_0), (490, ck_X12_has_0), (372, ck_X12_longOf_0), (396, ck_X12_growsOf_0), (378, ck_X12_least_0)]
def ca_X12_givesBy_13 : List (Nat × AA) := [(18, [(.ofNat 0, .ofNat 0), (.ofNat 0, .ofNat 7), (.ofNat 1, .ofNat 8), (.ofNat 0, .ofNat 9), (.ofNat 0, .ofNat 24), fr, (.ofNat 0, .ofNat 8)], [.inr (.inl [67]), .inl (1, .ofNat 0), .inl (2, .ofNat 0), .inl (3, .ofNat 0), .inl (4, .ofNat 0), .inl (5, .ofNat 0), .inl (6, .ofNat 0)], [], [(93, 64, 3, .ofNat 0)], [(0, 5, 0), (0, 6, 0)], (.ofNat 8, [.ofNat 0, .ofNat 0, .ofNat 0, .ofNat 0, .ofNat 0, .ofNat 0, .negSucc 0]))]
set_option maxRecDepth 100000 in
theorem cc_X12_givesBy_13 : aChk QPl CF ck_X12_givesBy_13 cg_X12_givesBy_13 xxX12 mX12_givesBy tX12_givesBy ca_X12_givesBy_13 [] 9 = true := by decide +kernel
theorem cx_X12_givesBy_13 : ctsO QQ CF xxX12 cg_X12_givesBy_13 := ctsO_cons rfl ct_X12_laysNow_0 (ctsO_cons rfl ct_X12_has_0 (ctsO_cons rfl ct_X12_longOf_0 (ctsO_cons rfl ct_X12_growsOf_0 (ctsO_cons rfl ct_X12_least_0 (ctsO_nil)))))
theorem ct_X12_givesBy_13 : ctrO QQ CF ck_X12_givesBy_13 mX12_givesBy := chk_ok (Q := QQ) (QP := QPl) (C := CF) (c := ck_X12_givesBy_13) (G := cg_X12_givesBy_13) (X := xxX12) (M := mX12_givesBy) (t := tX12_givesBy) (anns := ca_X12_givesBy_13) 9 xx12 pl12 rfl kX12_givesBy qq_ok cx_X12_givesBy_13 cc_X12_givesBy_13
def ck_X12_givesBy_14 : AK := (10, [.inr (.inl [67]), .inl (.ofNat 0, .ofNat 7), .inl (.ofNat 1, .ofNat 8), .inl (.ofNat 0, .ofNat 9), .inl (.ofNat 0, .ofNat 30)], [91, 93], false, [([(.ofNat 0, .ofNat 7), (.ofNat 1, .ofNat 8), (.ofNat 0, .ofNat 9), (.ofNat 0, .ofNat 30)], .inl fr, [])], [])
def cg_X12_givesBy_14 : List (Nat × AK) := [(408, ck_X12_laysNow_0), (490, ck_X12_has_0), (372, ck_X12_longOf_0), (396, ck_X12_growsOf_0), (378, ck_X12_least_0)]
def ca_X12_givesBy_14 : List (Nat × AA) := [(18, [(.ofNat 0, .ofNat 0), (.ofNat 0, .ofNat 7), (.ofNat 1, .ofNat 8), (.ofNat 0, .ofNat 9), (.ofNat 0, .ofNat 30), fr, (.ofNat 0, .ofNat 8)], [.inr (.inl [67]), .inl (1, .ofNat 0), .inl (2, .ofNat 0), .inl (3, .ofNat 0), .inl (4, .ofNat 0), .inl (5, .ofNat 0), .inl (6, .ofNat 0)], [], [(93, 64, 3, .ofNat 0)], [(0, 5, 0), (0, 6, 0)], (.ofNat 8, [.ofNat 0, .ofNat 0, .ofNat 0, .ofNat 0, .ofNat 0, .ofNat 0, .negSucc 0]))]
set_option maxRecDepth 100000 in
theorem cc_X12_givesBy_14 : aChk QPl CF ck_X12_givesBy_14 cg_X12_givesBy_14 xxX12 mX12_givesBy tX12_givesBy ca_X12_givesBy_14 [] 9 = true := by decide +kernel
theorem cx_X12_givesBy_14 : ctsO QQ CF xxX12 cg_X12_givesBy_14 := ctsO_cons rfl ct_X12_laysNow_0 (ctsO_cons rfl ct_X12_has_0 (ctsO_cons rfl ct_X12_longOf_0 (ctsO_cons rfl ct_X12_growsOf_0 (ctsO_cons rfl ct_X12_least_0 (ctsO_nil)))))
theorem ct_X12_givesBy_14 : ctrO QQ CF ck_X12_givesBy_14 mX12_givesBy := chk_ok (Q := QQ) (QP := QPl) (C := CF) (c := ck_X12_givesBy_14) (G := cg_X12_givesBy_14) (X := xxX12) (M := mX12_givesBy) (t := tX12_givesBy) (anns := ca_X12_givesBy_14) 9 xx12 pl12 rfl kX12_givesBy qq_ok cx_X12_givesBy_14 cc_X12_givesBy_14
def ck_X12_givesBy_15 : AK := (10, [.inr (.inl [67]), .inl (.ofNat 0, .ofNat 7), .inl (.ofNat 1, .ofNat 8), .inl (.ofNat 0, .ofNat 9), .inl (.ofNat 0, .ofNat 39)], [91, 93], false, [([(.ofNat 0, .ofNat 7), (.ofNat 1, .ofNat 8), (.ofNat 0, .ofNat 9), (.ofNat 0, .ofNat 39)], .inl fr, [])], [])
def cg_X12_givesBy_15 : List (Nat × AK) := [(408, ck_X12_laysNow_0), (490, ck_X12_has_0), (372, ck_X12_longOf_0), (396, ck_X12_growsOf_0), (378, ck_X12_least_0)]
def ca_X12_givesBy_15 : List (Nat × AA) := [(18, [(.ofNat 0, .ofNat 0), (.ofNat 0, .ofNat 7), (.ofNat 1, .ofNat 8), (.ofNat 0, .ofNat 9), (.ofNat 0, .ofNat 39), fr, (.ofNat 0, .ofNat 8)], [.inr (.inl [67]), .inl (1, .ofNat 0), .inl (2, .ofNat 0), .inl (3, .ofNat 0), .inl (4, .ofNat 0), .inl (5, .ofNat 0), .inl (6, .ofNat 0)], [], [(93, 64, 3, .ofNat 0)], [(0, 5, 0), (0, 6, 0)], (.ofNat 8, [.ofNat 0, .ofNat 0, .ofNat 0, .ofNat 0, .ofNat 0, .ofNat 0, .negSucc 0]))]
set_option maxRecDepth 100000 in
theorem cc_X12_givesBy_15 : aChk QPl CF ck_X12_givesBy_15 cg_X12_givesBy_15 xxX12 mX12_givesBy tX12_givesBy ca_X12_givesBy_15 [] 9 = true := by decide +kernel
theorem cx_X12_givesBy_15 : ctsO QQ CF xxX12 cg_X12_givesBy_15 := ctsO_cons rfl ct_X12_laysNow_0 (ctsO_cons rfl ct_X12_has_0 (ctsO_cons rfl ct_X12_longOf_0 (ctsO_cons rfl ct_X12_growsOf_0 (ctsO_cons rfl ct_X12_least_0 (ctsO_nil)))))
theorem ct_X12_givesBy_15 : ctrO QQ CF ck_X12_givesBy_15 mX12_givesBy := chk_ok (Q := QQ) (QP := QPl) (C := CF) (c := ck_X12_givesBy_15) (G := cg_X12_givesBy_15) (X := xxX12) (M := mX12_givesBy) (t := tX12_givesBy) (anns := ca_X12_givesBy_15) 9 xx12 pl12 rfl kX12_givesBy qq_ok cx_X12_givesBy_15 cc_X12_givesBy_15
def ck_X12_givesBy_16 : AK := (10, [.inr (.inl [67]), .inl (.ofNat 0, .ofNat 7), .inl (.ofNat 1, .ofNat 8), .inl (.ofNat 0, .ofNat 9), .inl (.ofNat 0, .ofNat 40)], [91, 93], false, [([(.ofNat 0, .ofNat 7), (.ofNat 1, .ofNat 8), (.ofNat 0, .ofNat 9), (.ofNat 0, .ofNat 40)], .inl fr, [])], [])
def cg_X12_givesBy_16 : List (Nat × AK) := [(408, ck_X12_laysNow_0), (490, ck_X12_has_0), (372, ck_X12_longOf_0), (396, ck_X12_growsOf_0), (378, ck_X12_least_0)]
def ca_X12_givesBy_16 : List (Nat × AA) := [(18, [(.ofNat 0, .ofNat 0), (.ofNat 0, .ofNat 7), (.ofNat 1, .ofNat 8), (.ofNat 0, .ofNat 9), (.ofNat 0, .ofNat 40), fr, (.ofNat 0, .ofNat 8)], [.inr (.inl [67]), .inl (1, .ofNat 0), .inl (2, .ofNat 0), .inl (3, .ofNat 0), .inl (4, .ofNat 0), .inl (5, .ofNat 0), .inl (6, .ofNat 0)], [], [(93, 64, 3, .ofNat 0)], [(0, 5, 0), (0, 6, 0)], (.ofNat 8, [.ofNat 0, .ofNat 0, .ofNat 0, .ofNat 0, .ofNat 0, .ofNat 0, .negSucc 0]))]
set_option maxRecDepth 100000 in
theorem cc_X12_givesBy_16 : aChk QPl CF ck_X12_givesBy_16 cg_X12_givesBy_16 xxX12 mX12_givesBy tX12_givesBy ca_X12_givesBy_16 [] 9 = true := by decide +kernel
theorem cx_X12_givesBy_16 : ctsO QQ CF xxX12 cg_X12_givesBy_16 := ctsO_cons rfl ct_X12_laysNow_0 (ctsO_cons rfl ct_X12_has_0 (ctsO_cons rfl ct_X12_longOf_0 (ctsO_cons rfl ct_X12_growsOf_0 (ctsO_cons rfl ct_X12_least_0 (ctsO_nil)))))
theorem ct_X12_givesBy_16 : ctrO QQ CF ck_X12_givesBy_16 mX12_givesBy := chk_ok (Q := QQ) (QP := QPl) (C := CF) (c := ck_X12_givesBy_16) (G := cg_X12_givesBy_16) (X := xxX12) (M := mX12_givesBy) (t := tX12_givesBy) (anns := ca_X12_givesBy_16) 9 xx12 pl12 rfl kX12_givesBy qq_ok cx_X12_givesBy_16 cc_X12_givesBy_16
def ck_X12_givesBy_17 : AK := (10, [.inr (.inl [67]), .inl (.ofNat 0, .ofNat 7), .inl (.ofNat 1, .ofNat 8), .inl (.ofNat 0, .ofNat 9), .inl (.ofNat 0, .ofNat 41)], [91, 93], false, [([(.ofNat 0, .ofNat 7), (.ofNat 1, .ofNat 8), (.ofNat 0, .ofNat 9), (.ofNat 0, .ofNat 41)], .inl fr, [])], [])
def cg_X12_givesBy_17 : List (Nat × AK) := [(408, ck_X12_laysNow_0), (490, ck_X12_has_0), (372, ck_X12_longOf_0), (396, ck_X12_growsOf_0), (378, ck_X12_least_0)]
def ca_X12_givesBy_17 : List (Nat × AA) := [(18, [(.ofNat 0, .ofNat 0), (.ofNat 0, .ofNat 7), (.ofNat 1, .ofNat 8), (.ofNat 0, .ofNat 9), (.ofNat 0, .ofNat 41), fr, (.ofNat 0, .ofNat 8)], [.inr (.inl [67]), .inl (1, .ofNat 0), .inl (2, .ofNat 0), .inl (3, .ofNat 0), .inl (4, .ofNat 0), .inl (5, .ofNat 0), .inl (6, .ofNat 0)], [], [(93, 64, 3, .ofNat 0)], [(0, 5, 0), (0, 6, 0)], (.ofNat 8, [.ofNat 0, .ofNat 0, .ofNat 0, .ofNat 0, .ofNat 0, .ofNat 0, .negSucc 0]))]
set_option maxRecDepth 100000 in
theorem cc_X12_givesBy_17 : aChk QPl CF ck_X12_givesBy_17 cg_X12_givesBy_17 xxX12 mX12_givesBy tX12_givesBy ca_X12_givesBy_17 [] 9 = true := by decide +kernel
theorem cx_X12_givesBy_17 : ctsO QQ CF xxX12 cg_X12_givesBy_17 := ctsO_cons rfl ct_X12_laysNow_0 (ctsO_cons rfl ct_X12_has_0 (ctsO_cons rfl ct_X12_longOf_0 (ctsO_cons rfl ct_X12_growsOf_0 (ctsO_cons rfl ct_X12_least_0 (ctsO_nil)))))
theorem ct_X12_givesBy_17 : ctrO QQ CF ck_X12_givesBy_17 mX12_givesBy := chk_ok (Q := QQ) (QP := QPl) (C := CF) (c := ck_X12_givesBy_17) (G := cg_X12_givesBy_17) (X := xxX12) (M := mX12_givesBy) (t := tX12_givesBy) (anns := ca_X12_givesBy_17) 9 xx12 pl12 rfl kX12_givesBy qq_ok cx_X12_givesBy_17 cc_X12_givesBy_17
def ck_X12_givesBy_18 : AK := (10, [.inr (.inl [67]), .inl (.ofNat 0, .ofNat 7), .inl (.ofNat 1, .ofNat 8), .inl (.ofNat 0, .ofNat 9), .inl (.ofNat 0, .ofNat 63)], [91, 93], false, [([(.ofNat 0, .ofNat 7), (.ofNat 1, .ofNat 8), (.ofNat 0, .ofNat 9), (.ofNat 0, .ofNat 63)], .inl fr, [])], [])
def cg_X12_givesBy_18 : List (Nat × AK) := [(408, ck_X12_laysNow_0), (490, ck_X12_has_0), (372, ck_X12_longOf_0), (396, ck_X12_growsOf_0), (378, ck_X12_least_0)]
def ca_X12_givesBy_18 : List (Nat × AA) := [(18, [(.ofNat 0, .ofNat 0), (.ofNat 0, .ofNat 7), (.ofNat 1, .ofNat 8), (.ofNat 0, .ofNat 9), (.ofNat 0, .ofNat 63), fr, (.ofNat 0, .ofNat 8)], [.inr (.inl [67]), .inl (1, .ofNat 0), .inl (2, .ofNat 0), .inl (3, .ofNat 0), .inl (4, .ofNat 0), .inl (5, .ofNat 0), .inl (6, .ofNat 0)], [], [(93, 64, 3, .ofNat 0)], [(0, 5, 0), (0, 6, 0)], (.ofNat 8, [.ofNat 0, .ofNat 0, .ofNat 0, .ofNat 0, .ofNat 0, .ofNat 0, .negSucc 0]))]
set_option maxRecDepth 100000 in
theorem cc_X12_givesBy_18 : aChk QPl CF ck_X12_givesBy_18 cg_X12_givesBy_18 xxX12 mX12_givesBy tX12_givesBy ca_X12_givesBy_18 [] 9 = true := by decide +kernel
theorem cx_X12_givesBy_18 : ctsO QQ CF xxX12 cg_X12_givesBy_18 := ctsO_cons rfl ct_X12_laysNow_0 (ctsO_cons rfl ct_X12_has_0 (ctsO_cons rfl ct_X12_longOf_0 (ctsO_cons rfl ct_X12_growsOf_0 (ctsO_cons rfl ct_X12_least_0 (ctsO_nil)))))
theorem ct_X12_givesBy_18 : ctrO QQ CF ck_X12_givesBy_18 mX12_givesBy := chk_ok (Q := QQ) (QP := QPl) (C := CF) (c := ck_X12_givesBy_18) (G := cg_X12_givesBy_18) (X := xxX12) (M := mX12_givesBy) (t := tX12_givesBy) (anns := ca_X12_givesBy_18) 9 xx12 pl12 rfl kX12_givesBy qq_ok cx_X12_givesBy_18 cc_X12_givesBy_18
def ck_X12_givesBy_19 : AK := (10, [.inr (.inl [67]), .inl (.ofNat 0, .ofNat 7), .inl (.ofNat 1, .ofNat 8), .inl (.ofNat 0, .ofNat 9), .inl (.ofNat 0, .ofNat 64)], [91, 93], false, [([(.ofNat 0, .ofNat 7), (.ofNat 1, .ofNat 8), (.ofNat 0, .ofNat 9), (.ofNat 0, .ofNat 64)], .inl fr, [])], [])
def cg_X12_givesBy_19 : List (Nat × AK) := [(408, ck_X12_laysNow_0), (490, ck_X12_has_0), (372, ck_X12_longOf_0), (396, ck_X12_growsOf_0), (378, ck_X12_least_0)]
def ca_X12_givesBy_19 : List (Nat × AA) := [(18, [(.ofNat 0, .ofNat 0), (.ofNat 0, .ofNat 7), (.ofNat 1, .ofNat 8), (.ofNat 0, .ofNat 9), (.ofNat 0, .ofNat 64), fr, (.ofNat 0, .ofNat 8)], [.inr (.inl [67]), .inl (1, .ofNat 0), .inl (2, .ofNat 0), .inl (3, .ofNat 0), .inl (4, .ofNat 0), .inl (5, .ofNat 0), .inl (6, .ofNat 0)], [], [(93, 64, 3, .ofNat 0)], [(0, 5, 0), (0, 6, 0)], (.ofNat 8, [.ofNat 0, .ofNat 0, .ofNat 0, .ofNat 0, .ofNat 0, .ofNat 0, .negSucc 0]))]
set_option maxRecDepth 100000 in
theorem cc_X12_givesBy_19 : aChk QPl CF ck_X12_givesBy_19 cg_X12_givesBy_19 xxX12 mX12_givesBy tX12_givesBy ca_X12_givesBy_19 [] 9 = true := by decide +kernel
theorem cx_X12_givesBy_19 : ctsO QQ CF xxX12 cg_X12_givesBy_19 := ctsO_cons rfl ct_X12_laysNow_0 (ctsO_cons rfl ct_X12_has_0 (ctsO_cons rfl ct_X12_longOf_0 (ctsO_cons rfl ct_X12_growsOf_0 (ctsO_cons rfl ct_X12_least_0 (ctsO_nil)))))
theorem ct_X12_givesBy_19 : ctrO QQ CF ck_X12_givesBy_19 mX12_givesBy := chk_ok (Q := QQ) (QP := QPl) (C := CF) (c := ck_X12_givesBy_19) (G := cg_X12_givesBy_19) (X := xxX12) (M := mX12_givesBy) (t := tX12_givesBy) (anns := ca_X12_givesBy_19) 9 xx12 pl12 rfl kX12_givesBy qq_ok cx_X12_givesBy_19 cc_X12_givesBy_19
def ck_X12_givesBy_20 : AK := (10, [.inr (.inl [67]), .inl (.ofNat 0, .ofNat 7), .inl (.ofNat 1, .ofNat 8), .inl (.ofNat 0, .ofNat 9), .inl (.ofNat 0, .ofNat 68)], [91, 93], false, [([(.ofNat 0, .ofNat 7), (.ofNat 1, .ofNat 8), (.ofNat 0, .ofNat 9), (.ofNat 0, .ofNat 68)], .inl fr, [])], [])
def cg_X12_givesBy_20 : List (Nat × AK) := [(408, ck_X12_laysNow_0), (490, ck_X12_has_0), (372, ck_X12_longOf_0), (396, ck_X12_growsOf_0), (378, ck_X12_least_0)]
def ca_X12_givesBy_20 : List (Nat × AA) := [(18, [(.ofNat 0, .ofNat 0), (.ofNat 0, .ofNat 7), (.ofNat 1, .ofNat 8), (.ofNat 0, .ofNat 9), (.ofNat 0, .ofNat 68), fr, (.ofNat 0, .ofNat 8)], [.inr (.inl [67]), .inl (1, .ofNat 0), .inl (2, .ofNat 0), .inl (3, .ofNat 0), .inl (4, .ofNat 0), .inl (5, .ofNat 0), .inl (6, .ofNat 0)], [], [(93, 64, 3, .ofNat 0)], [(0, 5, 0), (0, 6, 0)], (.ofNat 8, [.ofNat 0, .ofNat 0, .ofNat 0, .ofNat 0, .ofNat 0, .ofNat 0, .negSucc 0]))]
set_option maxRecDepth 100000 in
theorem cc_X12_givesBy_20 : aChk QPl CF ck_X12_givesBy_20 cg_X12_givesBy_20 xxX12 mX12_givesBy tX12_givesBy ca_X12_givesBy_20 [] 9 = true := by decide +kernel
theorem cx_X12_givesBy_20 : ctsO QQ CF xxX12 cg_X12_givesBy_20 := ctsO_cons rfl ct_X12_laysNow_0 (ctsO_cons rfl ct_X12_has_0 (ctsO_cons rfl ct_X12_longOf_0 (ctsO_cons rfl ct_X12_growsOf_0 (ctsO_cons rfl ct_X12_least_0 (ctsO_nil)))))
theorem ct_X12_givesBy_20 : ctrO QQ CF ck_X12_givesBy_20 mX12_givesBy := chk_ok (Q := QQ) (QP := QPl) (C := CF) (c := ck_X12_givesBy_20) (G := cg_X12_givesBy_20) (X := xxX12) (M := mX12_givesBy) (t := tX12_givesBy) (anns := ca_X12_givesBy_20) 9 xx12 pl12 rfl kX12_givesBy qq_ok cx_X12_givesBy_20 cc_X12_givesBy_20
def ck_X12_givesBy_21 : AK := (10, [.inr (.inl [67]), .inl (.ofNat 0, .ofNat 7), .inl (.ofNat 1, .ofNat 8), .inl (.ofNat 0, .ofNat 9), .inl (.ofNat 0, .ofNat 69)], [91, 93], false, [([(.ofNat 0, .ofNat 7), (.ofNat 1, .ofNat 8), (.ofNat 0, .ofNat 9), (.ofNat 0, .ofNat 69)], .inl fr, [])], [])
def cg_X12_givesBy_21 : List (Nat × AK) := [(408, ck_X12_laysNow_0), (490, ck_X12_has_0), (372, ck_X12_longOf_0), (396, ck_X12_growsOf_0), (378, ck_X12_least_0)]
def ca_X12_givesBy_21 : List (Nat × AA) := [(18, [(.ofNat 0, .ofNat 0), (.ofNat 0, .ofNat 7), (.ofNat 1, .ofNat 8), (.ofNat 0, .ofNat 9), (.ofNat 0, .ofNat 69), fr, (.ofNat 0, .ofNat 8)], [.inr (.inl [67]), .inl (1, .ofNat 0), .inl (2, .ofNat 0), .inl (3, .ofNat 0), .inl (4, .ofNat 0), .inl (5, .ofNat 0), .inl (6, .ofNat 0)], [], [(93, 64, 3, .ofNat 0)], [(0, 5, 0), (0, 6, 0)], (.ofNat 8, [.ofNat 0, .ofNat 0, .ofNat 0, .ofNat 0, .ofNat 0, .ofNat 0, .negSucc 0]))]
set_option maxRecDepth 100000 in
theorem cc_X12_givesBy_21 : aChk QPl CF ck_X12_givesBy_21 cg_X12_givesBy_21 xxX12 mX12_givesBy tX12_givesBy ca_X12_givesBy_21 [] 9 = true := by decide +kernel
theorem cx_X12_givesBy_21 : ctsO QQ CF xxX12 cg_X12_givesBy_21 := ctsO_cons rfl ct_X12_laysNow_0 (ctsO_cons rfl ct_X12_has_0 (ctsO_cons rfl ct_X12_longOf_0 (ctsO_cons rfl ct_X12_growsOf_0 (ctsO_cons rfl ct_X12_least_0 (ctsO_nil)))))
theorem ct_X12_givesBy_21 : ctrO QQ CF ck_X12_givesBy_21 mX12_givesBy := chk_ok (Q := QQ) (QP := QPl) (C := CF) (c := ck_X12_givesBy_21) (G := cg_X12_givesBy_21) (X := xxX12) (M := mX12_givesBy) (t := tX12_givesBy) (anns := ca_X12_givesBy_21) 9 xx12 pl12 rfl kX12_givesBy qq_ok cx_X12_givesBy_21 cc_X12_givesBy_21
def ck_X12_givesBy_22 : AK := (10, [.inr (.inl [67]), .inl (.ofNat 0, .ofNat 7), .inl (.ofNat 1, .ofNat 8), .inl (.ofNat 0, .ofNat 9), .inl (.ofNat 0, .ofNat 79)], [91, 93], false, [([(.ofNat 0, .ofNat 7), (.ofNat 1, .ofNat 8), (.ofNat 0, .ofNat 9), (.ofNat 0, .ofNat 79)], .inl fr, [])], [])
def cg_X12_givesBy_22 : List (Nat × AK) := [(408, ck_X12_laysNow_0), (490, ck_X12_has_0), (372, ck_X12_longOf_0), (396, ck_X12_growsOf_0), (378, ck_X12_least_0)]
def ca_X12_givesBy_22 : List (Nat × AA) := [(18, [(.ofNat 0, .ofNat 0), (.ofNat 0, .ofNat 7), (.ofNat 1, .ofNat 8), (.ofNat 0, .ofNat 9), (.ofNat 0, .ofNat 79), fr, (.ofNat 0, .ofNat 8)], [.inr (.inl [67]), .inl (1, .ofNat 0), .inl (2, .ofNat 0), .inl (3, .ofNat 0), .inl (4, .ofNat 0), .inl (5, .ofNat 0), .inl (6, .ofNat 0)], [], [(93, 64, 3, .ofNat 0)], [(0, 5, 0), (0, 6, 0)], (.ofNat 8, [.ofNat 0, .ofNat 0, .ofNat 0, .ofNat 0, .ofNat 0, .ofNat 0, .negSucc 0]))]
set_option maxRecDepth 100000 in
theorem cc_X12_givesBy_22 : aChk QPl CF ck_X12_givesBy_22 cg_X12_givesBy_22 xxX12 mX12_givesBy tX12_givesBy ca_X12_givesBy_22 [] 9 = true := by decide +kernel
theorem cx_X12_givesBy_22 : ctsO QQ CF xxX12 cg_X12_givesBy_22 := ctsO_cons rfl ct_X12_laysNow_0 (ctsO_cons rfl ct_X12_has_0 (ctsO_cons rfl ct_X12_longOf_0 (ctsO_cons rfl ct_X12_growsOf_0 (ctsO_cons rfl ct_X12_least_0 (ctsO_nil)))))
theorem ct_X12_givesBy_22 : ctrO QQ CF ck_X12_givesBy_22 mX12_givesBy := chk_ok (Q := QQ) (QP := QPl) (C := CF) (c := ck_X12_givesBy_22) (G := cg_X12_givesBy_22) (X := xxX12) (M := mX12_givesBy) (t := tX12_givesBy) (anns := ca_X12_givesBy_22) 9 xx12 pl12 rfl kX12_givesBy qq_ok cx_X12_givesBy_22 cc_X12_givesBy_22
def ck_X12_givesBy_23 : AK := (10, [.inr (.inl [67]), .inl (.ofNat 0, .ofNat 7), .inl (.ofNat 1, .ofNat 8), .inl (.ofNat 0, .ofNat 9), .inl (.ofNat 0, .ofNat 80)], [91, 93], false, [([(.ofNat 0, .ofNat 7), (.ofNat 1, .ofNat 8), (.ofNat 0, .ofNat 9), (.ofNat 0, .ofNat 80)], .inl fr, [])], [])
def cg_X12_givesBy_23 : List (Nat × AK) := [(408, ck_X12_laysNow_0), (490, ck_X12_has_0), (372, ck_X12_longOf_0), (396, ck_X12_growsOf_0), (378, ck_X12_least_0)]
def ca_X12_givesBy_23 : List (Nat × AA) := [(18, [(.ofNat 0, .ofNat 0), (.ofNat 0, .ofNat 7), (.ofNat 1, .ofNat 8), (.ofNat 0, .ofNat 9), (.ofNat 0, .ofNat 80), fr, (.ofNat 0, .ofNat 8)], [.inr (.inl [67]), .inl (1, .ofNat 0), .inl (2, .ofNat 0), .inl (3, .ofNat 0), .inl (4, .ofNat 0), .inl (5, .ofNat 0), .inl (6, .ofNat 0)], [], [(93, 64, 3, .ofNat 0)], [(0, 5, 0), (0, 6, 0)], (.ofNat 8, [.ofNat 0, .ofNat 0, .ofNat 0, .ofNat 0, .ofNat 0, .ofNat 0, .negSucc 0]))]
set_option maxRecDepth 100000 in
theorem cc_X12_givesBy_23 : aChk QPl CF ck_X12_givesBy_23 cg_X12_givesBy_23 xxX12 mX12_givesBy tX12_givesBy ca_X12_givesBy_23 [] 9 = true := by decide +kernel
theorem cx_X12_givesBy_23 : ctsO QQ CF xxX12 cg_X12_givesBy_23 := ctsO_cons rfl ct_X12_laysNow_0 (ctsO_cons rfl ct_X12_has_0 (ctsO_cons rfl ct_X12_longOf_0 (ctsO_cons rfl ct_X12_growsOf_0 (ctsO_cons rfl ct_X12_least_0 (ctsO_nil)))))
theorem ct_X12_givesBy_23 : ctrO QQ CF ck_X12_givesBy_23 mX12_givesBy := chk_ok (Q := QQ) (QP := QPl) (C := CF) (c := ck_X12_givesBy_23) (G := cg_X12_givesBy_23) (X := xxX12) (M := mX12_givesBy) (t := tX12_givesBy) (anns := ca_X12_givesBy_23) 9 xx12 pl12 rfl kX12_givesBy qq_ok cx_X12_givesBy_23 cc_X12_givesBy_23
def ck_X12_givesBy_24 : AK := (10, [.inr (.inl [67]), .inl (.ofNat 0, .ofNat 7), .inl (.ofNat 1, .ofNat 8), .inl (.ofNat 0, .ofNat 9), .inl (.ofNat 0, .ofNat 95)], [91, 93], false, [([(.ofNat 0, .ofNat 7), (.ofNat 1, .ofNat 8), (.ofNat 0, .ofNat 9), (.ofNat 0, .ofNat 95)], .inl fr, [])], [])
def cg_X12_givesBy_24 : List (Nat × AK) := [(408, ck_X12_laysNow_0), (490, ck_X12_has_0), (372, ck_X12_longOf_0), (396, ck_X12_growsOf_0), (378, ck_X12_least_0)]
def ca_X12_givesBy_24 : List (Nat × AA) := [(18, [(.ofNat 0, .ofNat 0), (.ofNat 0, .ofNat 7), (.ofNat 1, .ofNat 8), (.ofNat 0, .ofNat 9), (.ofNat 0, .ofNat 95), fr, (.ofNat 0, .ofNat 8)], [.inr (.inl [67]), .inl (1, .ofNat 0), .inl (2, .ofNat 0), .inl (3, .ofNat 0), .inl (4, .ofNat 0), .inl (5, .ofNat 0), .inl (6, .ofNat 0)], [], [(93, 64, 3, .ofNat 0)], [(0, 5, 0), (0, 6, 0)], (.ofNat 8, [.ofNat 0, .ofNat 0, .ofNat 0, .ofNat 0, .ofNat 0, .ofNat 0, .negSucc 0]))]
set_option maxRecDepth 100000 in
theorem cc_X12_givesBy_24 : aChk QPl CF ck_X12_givesBy_24 cg_X12_givesBy_24 xxX12 mX12_givesBy tX12_givesBy ca_X12_givesBy_24 [] 9 = true := by decide +kernel
theorem cx_X12_givesBy_24 : ctsO QQ CF xxX12 cg_X12_givesBy_24 := ctsO_cons rfl ct_X12_laysNow_0 (ctsO_cons rfl ct_X12_has_0 (ctsO_cons rfl ct_X12_longOf_0 (ctsO_cons rfl ct_X12_growsOf_0 (ctsO_cons rfl ct_X12_least_0 (ctsO_nil)))))
theorem ct_X12_givesBy_24 : ctrO QQ CF ck_X12_givesBy_24 mX12_givesBy := chk_ok (Q := QQ) (QP := QPl) (C := CF) (c := ck_X12_givesBy_24) (G := cg_X12_givesBy_24) (X := xxX12) (M := mX12_givesBy) (t := tX12_givesBy) (anns := ca_X12_givesBy_24) 9 xx12 pl12 rfl kX12_givesBy qq_ok cx_X12_givesBy_24 cc_X12_givesBy_24
def ck_X12_givesBy_25 : AK := (10, [.inr (.inl [67]), .inl (.ofNat 0, .ofNat 7), .inl (.ofNat 1, .ofNat 8), .inl (.ofNat 0, .ofNat 9), .inl (.ofNat 0, .ofNat 96)], [91, 93], false, [([(.ofNat 0, .ofNat 7), (.ofNat 1, .ofNat 8), (.ofNat 0, .ofNat 9), (.ofNat 0, .ofNat 96)], .inl fr, [])], [])
def cg_X12_givesBy_25 : List (Nat × AK) := [(408, ck_X12_laysNow_0), (490, ck_X12_has_0), (372, ck_X12_longOf_0), (396, ck_X12_growsOf_0), (378, ck_X12_least_0)]
def ca_X12_givesBy_25 : List (Nat × AA) := [(18, [(.ofNat 0, .ofNat 0), (.ofNat 0, .ofNat 7), (.ofNat 1, .ofNat 8), (.ofNat 0, .ofNat 9), (.ofNat 0, .ofNat 96), fr, (.ofNat 0, .ofNat 8)], [.inr (.inl [67]), .inl (1, .ofNat 0), .inl (2, .ofNat 0), .inl (3, .ofNat 0), .inl (4, .ofNat 0), .inl (5, .ofNat 0), .inl (6, .ofNat 0)], [], [(93, 64, 3, .ofNat 0)], [(0, 5, 0), (0, 6, 0)], (.ofNat 8, [.ofNat 0, .ofNat 0, .ofNat 0, .ofNat 0, .ofNat 0, .ofNat 0, .negSucc 0]))]
set_option maxRecDepth 100000 in
theorem cc_X12_givesBy_25 : aChk QPl CF ck_X12_givesBy_25 cg_X12_givesBy_25 xxX12 mX12_givesBy tX12_givesBy ca_X12_givesBy_25 [] 9 = true := by decide +kernel
theorem cx_X12_givesBy_25 : ctsO QQ CF xxX12 cg_X12_givesBy_25 := ctsO_cons rfl ct_X12_laysNow_0 (ctsO_cons rfl ct_X12_has_0 (ctsO_cons rfl ct_X12_longOf_0 (ctsO_cons rfl ct_X12_growsOf_0 (ctsO_cons rfl ct_X12_least_0 (ctsO_nil)))))
theorem ct_X12_givesBy_25 : ctrO QQ CF ck_X12_givesBy_25 mX12_givesBy := chk_ok (Q := QQ) (QP := QPl) (C := CF) (c := ck_X12_givesBy_25) (G := cg_X12_givesBy_25) (X := xxX12) (M := mX12_givesBy) (t := tX12_givesBy) (anns := ca_X12_givesBy_25) 9 xx12 pl12 rfl kX12_givesBy qq_ok cx_X12_givesBy_25 cc_X12_givesBy_25
def ck_X12_givesBy_26 : AK := (10, [.inr (.inl [67]), .inl (.ofNat 0, .ofNat 7), .inl (.ofNat 1, .ofNat 8), .inl (.ofNat 0, .ofNat 9), .inl (.ofNat 0, .ofNat 199)], [91, 93], false, [([(.ofNat 0, .ofNat 7), (.ofNat 1, .ofNat 8), (.ofNat 0, .ofNat 9), (.ofNat 0, .ofNat 199)], .inl fr, [])], [])
def cg_X12_givesBy_26 : List (Nat × AK) := [(408, ck_X12_laysNow_0), (490, ck_X12_has_0), (372, ck_X12_longOf_0), (396, ck_X12_growsOf_0), (378, ck_X12_least_0)]
def ca_X12_givesBy_26 : List (Nat × AA) := [(18, [(.ofNat 0, .ofNat 0), (.ofNat 0, .ofNat 7), (.ofNat 1, .ofNat 8), (.ofNat 0, .ofNat 9), (.ofNat 0, .ofNat 199), fr, (.ofNat 0, .ofNat 8)], [.inr (.inl [67]), .inl (1, .ofNat 0), .inl (2, .ofNat 0), .inl (3, .ofNat 0), .inl (4, .ofNat 0), .inl (5, .ofNat 0), .inl (6, .ofNat 0)], [], [(93, 64, 3, .ofNat 0)], [(0, 5, 0), (0, 6, 0)], (.ofNat 8, [.ofNat 0, .ofNat 0, .ofNat 0, .ofNat 0, .ofNat 0, .ofNat 0, .negSucc 0]))]
set_option maxRecDepth 100000 in
theorem cc_X12_givesBy_26 : aChk QPl CF ck_X12_givesBy_26 cg_X12_givesBy_26 xxX12 mX12_givesBy tX12_givesBy ca_X12_givesBy_26 [] 9 = true := by decide +kernel
theorem cx_X12_givesBy_26 : ctsO QQ CF xxX12 cg_X12_givesBy_26 := ctsO_cons rfl ct_X12_laysNow_0 (ctsO_cons rfl ct_X12_has_0 (ctsO_cons rfl ct_X12_longOf_0 (ctsO_cons rfl ct_X12_growsOf_0 (ctsO_cons rfl ct_X12_least_0 (ctsO_nil)))))
theorem ct_X12_givesBy_26 : ctrO QQ CF ck_X12_givesBy_26 mX12_givesBy := chk_ok (Q := QQ) (QP := QPl) (C := CF) (c := ck_X12_givesBy_26) (G := cg_X12_givesBy_26) (X := xxX12) (M := mX12_givesBy) (t := tX12_givesBy) (anns := ca_X12_givesBy_26) 9 xx12 pl12 rfl kX12_givesBy qq_ok cx_X12_givesBy_26 cc_X12_givesBy_26
def ck_X12_givesBy_27 : AK := (10, [.inr (.inl [67]), .inl (.ofNat 0, .ofNat 7), .inl (.ofNat 1, .ofNat 8), .inl (.ofNat 0, .ofNat 9), .inl (.ofNat 0, .ofNat 200)], [91, 93], false, [([(.ofNat 0, .ofNat 7), (.ofNat 1, .ofNat 8), (.ofNat 0, .ofNat 9), (.ofNat 0, .ofNat 200)], .inl fr, [])], [])
def cg_X12_givesBy_27 : List (Nat × AK) := [(408, ck_X12_laysNow_0), (490, ck_X12_has_0), (372, ck_X12_longOf_0), (396, ck_X12_growsOf_0), (378, ck_X12_least_0)]
def ca_X12_givesBy_27 : List (Nat × AA) := [(18, [(.ofNat 0, .ofNat 0), (.ofNat 0, .ofNat 7), (.ofNat 1, .ofNat 8), (.ofNat 0, .ofNat 9), (.ofNat 0, .ofNat 200), fr, (.ofNat 0, .ofNat 8)], [.inr (.inl [67]), .inl (1, .ofNat 0), .inl (2, .ofNat 0), .inl (3, .ofNat 0), .inl (4, .ofNat 0), .inl (5, .ofNat 0), .inl (6, .ofNat 0)], [], [(93, 64, 3, .ofNat 0)], [(0, 5, 0), (0, 6, 0)], (.ofNat 8, [.ofNat 0, .ofNat 0, .ofNat 0, .ofNat 0, .ofNat 0, .ofNat 0, .negSucc 0]))]
set_option maxRecDepth 100000 in
theorem cc_X12_givesBy_27 : aChk QPl CF ck_X12_givesBy_27 cg_X12_givesBy_27 xxX12 mX12_givesBy tX12_givesBy ca_X12_givesBy_27 [] 9 = true := by decide +kernel
theorem cx_X12_givesBy_27 : ctsO QQ CF xxX12 cg_X12_givesBy_27 := ctsO_cons rfl ct_X12_laysNow_0 (ctsO_cons rfl ct_X12_has_0 (ctsO_cons rfl ct_X12_longOf_0 (ctsO_cons rfl ct_X12_growsOf_0 (ctsO_cons rfl ct_X12_least_0 (ctsO_nil)))))
theorem ct_X12_givesBy_27 : ctrO QQ CF ck_X12_givesBy_27 mX12_givesBy := chk_ok (Q := QQ) (QP := QPl) (C := CF) (c := ck_X12_givesBy_27) (G := cg_X12_givesBy_27) (X := xxX12) (M := mX12_givesBy) (t := tX12_givesBy) (anns := ca_X12_givesBy_27) 9 xx12 pl12 rfl kX12_givesBy qq_ok cx_X12_givesBy_27 cc_X12_givesBy_27
def ck_X12_givesBy_28 : AK := (10, [.inr (.inl [67]), .inl (.ofNat 0, .ofNat 7), .inl (.ofNat 1, .ofNat 8), .inl (.ofNat 0, .ofNat 9), .inl (.ofNat 0, .ofNat 275)], [91, 93], false, [([(.ofNat 0, .ofNat 7), (.ofNat 1, .ofNat 8), (.ofNat 0, .ofNat 9), (.ofNat 0, .ofNat 275)], .inl fr, [])], [])
def cg_X12_givesBy_28 : List (Nat × AK) := [(408, ck_X12_laysNow_0), (490, ck_X12_has_0), (372, ck_X12_longOf_0), (396, ck_X12_growsOf_0), (378, ck_X12_least_0)]
def ca_X12_givesBy_28 : List (Nat × AA) := [(18, [(.ofNat 0, .ofNat 0), (.ofNat 0, .ofNat 7), (.ofNat 1, .ofNat 8), (.ofNat 0, .ofNat 9), (.ofNat 0, .ofNat 275), fr, (.ofNat 0, .ofNat 8)], [.inr (.inl [67]), .inl (1, .ofNat 0), .inl (2, .ofNat 0), .inl (3, .ofNat 0), .inl (4, .ofNat 0), .inl (5, .ofNat 0), .inl (6, .ofNat 0)], [], [(93, 64, 3, .ofNat 0)], [(0, 5, 0), (0, 6, 0)], (.ofNat 8, [.ofNat 0, .ofNat 0, .ofNat 0, .ofNat 0, .ofNat 0, .ofNat 0, .negSucc 0]))]
set_option maxRecDepth 100000 in
theorem cc_X12_givesBy_28 : aChk QPl CF ck_X12_givesBy_28 cg_X12_givesBy_28 xxX12 mX12_givesBy tX12_givesBy ca_X12_givesBy_28 [] 9 = true := by decide +kernel
theorem cx_X12_givesBy_28 : ctsO QQ CF xxX12 cg_X12_givesBy_28 := ctsO_cons rfl ct_X12_laysNow_0 (ctsO_cons rfl ct_X12_has_0 (ctsO_cons rfl ct_X12_longOf_0 (ctsO_cons rfl ct_X12_growsOf_0 (ctsO_cons rfl ct_X12_least_0 (ctsO_nil)))))
theorem ct_X12_givesBy_28 : ctrO QQ CF ck_X12_givesBy_28 mX12_givesBy := chk_ok (Q := QQ) (QP := QPl) (C := CF) (c := ck_X12_givesBy_28) (G := cg_X12_givesBy_28) (X := xxX12) (M := mX12_givesBy) (t := tX12_givesBy) (anns := ca_X12_givesBy_28) 9 xx12 pl12 rfl kX12_givesBy qq_ok cx_X12_givesBy_28 cc_X12_givesBy_28
def ck_X12_givesBy_29 : AK := (10, [.inr (.inl [67]), .inl (.ofNat 0, .ofNat 7), .inl (.ofNat 1, .ofNat 8), .inl (.ofNat 0, .ofNat 9), .inl (.ofNat 0, .ofNat 276)], [91, 93], false, [([(.ofNat 0, .ofNat 7), (.ofNat 1, .ofNat 8), (.ofNat 0, .ofNat 9), (.ofNat 0, .ofNat 276)], .inl fr, [])], [])
def cg_X12_givesBy_29 : List (Nat × AK) := [(408, ck_X12_laysNow_0), (490, ck_X12_has_0), (372, ck_X12_longOf_0), (396, ck_X12_growsOf_0), (378, ck_X12_least_0)]
def ca_X12_givesBy_29 : List (Nat × AA) := [(18, [(.ofNat 0, .ofNat 0), (.ofNat 0, .ofNat 7), (.ofNat 1, .ofNat 8), (.ofNat 0, .ofNat 9), (.ofNat 0, .ofNat 276), fr, (.ofNat 0, .ofNat 8)], [.inr (.inl [67]), .inl (1, .ofNat 0), .inl (2, .ofNat 0), .inl (3, .ofNat 0), .inl (4, .ofNat 0), .inl (5, .ofNat 0), .inl (6, .ofNat 0)], [], [(93, 64, 3, .ofNat 0)], [(0, 5, 0), (0, 6, 0)], (.ofNat 8, [.ofNat 0, .ofNat 0, .ofNat 0, .ofNat 0, .ofNat 0, .ofNat 0, .negSucc 0]))]
set_option maxRecDepth 100000 in
theorem cc_X12_givesBy_29 : aChk QPl CF ck_X12_givesBy_29 cg_X12_givesBy_29 xxX12 mX12_givesBy tX12_givesBy ca_X12_givesBy_29 [] 9 = true := by decide +kernel
theorem cx_X12_givesBy_29 : ctsO QQ CF xxX12 cg_X12_givesBy_29 := ctsO_cons rfl ct_X12_laysNow_0 (ctsO_cons rfl ct_X12_has_0 (ctsO_cons rfl ct_X12_longOf_0 (ctsO_cons rfl ct_X12_growsOf_0 (ctsO_cons rfl ct_X12_least_0 (ctsO_nil)))))
theorem ct_X12_givesBy_29 : ctrO QQ CF ck_X12_givesBy_29 mX12_givesBy := chk_ok (Q := QQ) (QP := QPl) (C := CF) (c := ck_X12_givesBy_29) (G := cg_X12_givesBy_29) (X := xxX12) (M := mX12_givesBy) (t := tX12_givesBy) (anns := ca_X12_givesBy_29) 9 xx12 pl12 rfl kX12_givesBy qq_ok cx_X12_givesBy_29 cc_X12_givesBy_29
def ck_X12_givesBy_30 : AK := (10, [.inr (.inl [67]), .inl (.ofNat 0, .ofNat 7), .inl (.ofNat 1, .ofNat 8), .inl (.ofNat 0, .ofNat 9), .inl (.ofNat 0, .ofNat 299)], [91, 93], false, [([(.ofNat 0, .ofNat 7), (.ofNat 1, .ofNat 8), (.ofNat 0, .ofNat 9), (.ofNat 0, .ofNat 299)], .inl fr, [])], [])
def cg_X12_givesBy_30 : List (Nat × AK) := [(408, ck_X12_laysNow_0), (490, ck_X12_has_0), (372, ck_X12_longOf_0), (396, ck_X12_growsOf_0), (378, ck_X12_least_0)]
def ca_X12_givesBy_30 : List (Nat × AA) := [(18, [(.ofNat 0, .ofNat 0), (.ofNat 0, .ofNat 7), (.ofNat 1, .ofNat 8), (.ofNat 0, .ofNat 9), (.ofNat 0, .ofNat 299), fr, (.ofNat 0, .ofNat 8)], [.inr (.inl [67]), .inl (1, .ofNat 0), .inl (2, .ofNat 0), .inl (3, .ofNat 0), .inl (4, .ofNat 0), .inl (5, .ofNat 0), .inl (6, .ofNat 0)], [], [(93, 64, 3, .ofNat 0)], [(0, 5, 0), (0, 6, 0)], (.ofNat 8, [.ofNat 0, .ofNat 0, .ofNat 0, .ofNat 0, .ofNat 0, .ofNat 0, .negSucc 0]))]
set_option maxRecDepth 100000 in
theorem cc_X12_givesBy_30 : aChk QPl CF ck_X12_givesBy_30 cg_X12_givesBy_30 xxX12 mX12_givesBy tX12_givesBy ca_X12_givesBy_30 [] 9 = true := by decide +kernel
theorem cx_X12_givesBy_30 : ctsO QQ CF xxX12 cg_X12_givesBy_30 := ctsO_cons rfl ct_X12_laysNow_0 (ctsO_cons rfl ct_X12_has_0 (ctsO_cons rfl ct_X12_longOf_0 (ctsO_cons rfl ct_X12_growsOf_0 (ctsO_cons rfl ct_X12_least_0 (ctsO_nil)))))
theorem ct_X12_givesBy_30 : ctrO QQ CF ck_X12_givesBy_30 mX12_givesBy := chk_ok (Q := QQ) (QP := QPl) (C := CF) (c := ck_X12_givesBy_30) (G := cg_X12_givesBy_30) (X := xxX12) (M := mX12_givesBy) (t := tX12_givesBy) (anns := ca_X12_givesBy_30) 9 xx12 pl12 rfl kX12_givesBy qq_ok cx_X12_givesBy_30 cc_X12_givesBy_30
def ck_X12_givesBy_31 : AK := (10, [.inr (.inl [67]), .inl (.ofNat 0, .ofNat 7), .inl (.ofNat 1, .ofNat 8), .inl (.ofNat 0, .ofNat 9), .inl (.ofNat 0, .ofNat 300)], [91, 93], false, [([(.ofNat 0, .ofNat 7), (.ofNat 1, .ofNat 8), (.ofNat 0, .ofNat 9), (.ofNat 0, .ofNat 300)], .inl fr, [])], [])
def cg_X12_givesBy_31 : List (Nat × AK) := [(408, ck_X12_laysNow_0), (490, ck_X12_has_0), (372, ck_X12_longOf_0), (396, ck_X12_growsOf_0), (378, ck_X12_least_0)]
def ca_X12_givesBy_31 : List (Nat × AA) := [(18, [(.ofNat 0, .ofNat 0), (.ofNat 0, .ofNat 7), (.ofNat 1, .ofNat 8), (.ofNat 0, .ofNat 9), (.ofNat 0, .ofNat 300), fr, (.ofNat 0, .ofNat 8)], [.inr (.inl [67]), .inl (1, .ofNat 0), .inl (2, .ofNat 0), .inl (3, .ofNat 0), .inl (4, .ofNat 0), .inl (5, .ofNat 0), .inl (6, .ofNat 0)], [], [(93, 64, 3, .ofNat 0)], [(0, 5, 0), (0, 6, 0)], (.ofNat 8, [.ofNat 0, .ofNat 0, .ofNat 0, .ofNat 0, .ofNat 0, .ofNat 0, .negSucc 0]))]
set_option maxRecDepth 100000 in
theorem cc_X12_givesBy_31 : aChk QPl CF ck_X12_givesBy_31 cg_X12_givesBy_31 xxX12 mX12_givesBy tX12_givesBy ca_X12_givesBy_31 [] 9 = true := by decide +kernel
theorem cx_X12_givesBy_31 : ctsO QQ CF xxX12 cg_X12_givesBy_31 := ctsO_cons rfl ct_X12_laysNow_0 (ctsO_cons rfl ct_X12_has_0 (ctsO_cons rfl ct_X12_longOf_0 (ctsO_cons rfl ct_X12_growsOf_0 (ctsO_cons rfl ct_X12_least_0 (ctsO_nil)))))
theorem ct_X12_givesBy_31 : ctrO QQ CF ck_X12_givesBy_31 mX12_givesBy := chk_ok (Q := QQ) (QP := QPl) (C := CF) (c := ck_X12_givesBy_31) (G := cg_X12_givesBy_31) (X := xxX12) (M := mX12_givesBy) (t := tX12_givesBy) (anns := ca_X12_givesBy_31) 9 xx12 pl12 rfl kX12_givesBy qq_ok cx_X12_givesBy_31 cc_X12_givesBy_31
def ck_X12_givesBy_32 : AK := (10, [.inr (.inl [67]), .inl (.ofNat 0, .ofNat 7), .inl (.ofNat 1, .ofNat 8), .inl (.ofNat 0, .ofNat 9), .inl (.ofNat 0, .ofNat 301)], [91, 93], false, [([(.ofNat 0, .ofNat 7), (.ofNat 1, .ofNat 8), (.ofNat 0, .ofNat 9), (.ofNat 0, .ofNat 301)], .inl fr, [])], [])
def cg_X12_givesBy_32 : List (Nat × AK) := [(408, ck_X12_laysNow_0), (490, ck_X12_has_0), (372, ck_X12_longOf_0), (396, ck_X12_growsOf_0), (378, ck_X12_least_0)]
def ca_X12_givesBy_32 : List (Nat × AA) := [(18, [(.ofNat 0, .ofNat 0), (.ofNat 0, .ofNat 7), (.ofNat 1, .ofNat 8), (.ofNat 0, .ofNat 9), (.ofNat 0, .ofNat 301), fr, (.ofNat 0, .ofNat 8)], [.inr (.inl [67]), .inl (1, .ofNat 0), .inl (2, .ofNat 0), .inl (3, .ofNat 0), .inl (4, .ofNat 0), .inl (5, .ofNat 0), .inl (6, .ofNat 0)], [], [(93, 64, 3, .ofNat 0)], [(0, 5, 0), (0, 6, 0)], (.ofNat 8, [.ofNat 0, .ofNat 0, .ofNat 0, .ofNat 0, .ofNat 0, .ofNat 0, .negSucc 0]))]
set_option maxRecDepth 100000 in
theorem cc_X12_givesBy_32 : aChk QPl CF ck_X12_givesBy_32 cg_X12_givesBy_32 xxX12 mX12_givesBy tX12_givesBy ca_X12_givesBy_32 [] 9 = true := by decide +kernel
theorem cx_X12_givesBy_32 : ctsO QQ CF xxX12 cg_X12_givesBy_32 := ctsO_cons rfl ct_X12_laysNow_0 (ctsO_cons rfl ct_X12_has_0 (ctsO_cons rfl ct_X12_longOf_0 (ctsO_cons rfl ct_X12_growsOf_0 (ctsO_cons rfl ct_X12_least_0 (ctsO_nil)))))
theorem ct_X12_givesBy_32 : ctrO QQ CF ck_X12_givesBy_32 mX12_givesBy := chk_ok (Q := QQ) (QP := QPl) (C := CF) (c := ck_X12_givesBy_32) (G := cg_X12_givesBy_32) (X := xxX12) (M := mX12_givesBy) (t := tX12_givesBy) (anns := ca_X12_givesBy_32) 9 xx12 pl12 rfl kX12_givesBy qq_ok cx_X12_givesBy_32 cc_X12_givesBy_32
def ck_X12_givesBy_33 : AK := (10, [.inr (.inl [67]), .inl (.ofNat 0, .ofNat 7), .inl (.ofNat 1, .ofNat 8), .inl (.ofNat 0, .ofNat 9), .inl (.ofNat 0, .ofNat 399)], [91, 93], false, [([(.ofNat 0, .ofNat 7), (.ofNat 1, .ofNat 8), (.ofNat 0, .ofNat 9), (.ofNat 0, .ofNat 399)], .inl fr, [])], [])
def cg_X12_givesBy_33 : List (Nat × AK) := [(408, ck_X12_laysNow_0), (490, ck_X12_has_0), (372, ck_X12_longOf_0), (396, ck_X12_growsOf_0), (378, ck_X12_least_0)]
def ca_X12_givesBy_33 : List (Nat × AA) := [(18, [(.ofNat 0, .ofNat 0), (.ofNat 0, .ofNat 7), (.ofNat 1, .ofNat 8), (.ofNat 0, .ofNat 9), (.ofNat 0, .ofNat 399), fr, (.ofNat 0, .ofNat 8)], [.inr (.inl [67]), .inl (1, .ofNat 0), .inl (2, .ofNat 0), .inl (3, .ofNat 0), .inl (4, .ofNat 0), .inl (5, .ofNat 0), .inl (6, .ofNat 0)], [], [(93, 64, 3, .ofNat 0)], [(0, 5, 0), (0, 6, 0)], (.ofNat 8, [.ofNat 0, .ofNat 0, .ofNat 0, .ofNat 0, .ofNat 0, .ofNat 0, .negSucc 0]))]
set_option maxRecDepth 100000 in
theorem cc_X12_givesBy_33 : aChk QPl CF ck_X12_givesBy_33 cg_X12_givesBy_33 xxX12 mX12_givesBy tX12_givesBy ca_X12_givesBy_33 [] 9 = true := by decide +kernel
theorem cx_X12_givesBy_33 : ctsO QQ CF xxX12 cg_X12_givesBy_33 := ctsO_cons rfl ct_X12_laysNow_0 (ctsO_cons rfl ct_X12_has_0 (ctsO_cons rfl ct_X12_longOf_0 (ctsO_cons rfl ct_X12_growsOf_0 (ctsO_cons rfl ct_X12_least_0 (ctsO_nil)))))
theorem ct_X12_givesBy_33 : ctrO QQ CF ck_X12_givesBy_33 mX12_givesBy := chk_ok (Q := QQ) (QP := QPl) (C := CF) (c := ck_X12_givesBy_33) (G := cg_X12_givesBy_33) (X := xxX12) (M := mX12_givesBy) (t := tX12_givesBy) (anns := ca_X12_givesBy_33) 9 xx12 pl12 rfl kX12_givesBy qq_ok cx_X12_givesBy_33 cc_X12_givesBy_33
def ck_X12_givesBy_34 : AK := (10, [.inr (.inl [67]), .inl (.ofNat 0, .ofNat 7), .inl (.ofNat 1, .ofNat 8), .inl (.ofNat 0, .ofNat 9), .inl (.ofNat 0, .ofNat 400)], [91, 93], false, [([(.ofNat 0, .ofNat 7), (.ofNat 1, .ofNat 8), (.ofNat 0, .ofNat 9), (.ofNat 0, .ofNat 400)], .inl fr, [])], [])
def cg_X12_givesBy_34 : List (Nat × AK) := [(408, ck_X12_laysNow_0), (490, ck_X12_has_0), (372, ck_X12_longOf_0), (396, ck_X12_growsOf_0), (378, ck_X12_least_0)]
def ca_X12_givesBy_34 : List (Nat × AA) := [(18, [(.ofNat 0, .ofNat 0), (.ofNat 0, .ofNat 7), (.ofNat 1, .ofNat 8), (.ofNat 0, .ofNat 9), (.ofNat 0, .ofNat 400), fr, (.ofNat 0, .ofNat 8)], [.inr (.inl [67]), .inl (1, .ofNat 0), .inl (2, .ofNat 0), .inl (3, .ofNat 0), .inl (4, .ofNat 0), .inl (5, .ofNat 0), .inl (6, .ofNat 0)], [], [(93, 64, 3, .ofNat 0)], [(0, 5, 0), (0, 6, 0)], (.ofNat 8, [.ofNat 0, .ofNat 0, .ofNat 0, .ofNat 0, .ofNat 0, .ofNat 0, .negSucc 0]))]
set_option maxRecDepth 100000 in
theorem cc_X12_givesBy_34 : aChk QPl CF ck_X12_givesBy_34 cg_X12_givesBy_34 xxX12 mX12_givesBy tX12_givesBy ca_X12_givesBy_34 [] 9 = true := by decide +kernel
theorem cx_X12_givesBy_34 : ctsO QQ CF xxX12 cg_X12_givesBy_34 := ctsO_cons rfl ct_X12_laysNow_0 (ctsO_cons rfl ct_X12_has_0 (ctsO_cons rfl ct_X12_longOf_0 (ctsO_cons rfl ct_X12_growsOf_0 (ctsO_cons rfl ct_X12_least_0 (ctsO_nil)))))
theorem ct_X12_givesBy_34 : ctrO QQ CF ck_X12_givesBy_34 mX12_givesBy := chk_ok (Q := QQ) (QP := QPl) (C := CF) (c := ck_X12_givesBy_34) (G := cg_X12_givesBy_34) (X := xxX12) (M := mX12_givesBy) (t := tX12_givesBy) (anns := ca_X12_givesBy_34) 9 xx12 pl12 rfl kX12_givesBy qq_ok cx_X12_givesBy_34 cc_X12_givesBy_34
def ck_X12_givesBy_35 : AK := (10, [.inr (.inl [67]), .inl (.ofNat 0, .ofNat 7), .inl (.ofNat 1, .ofNat 8), .inl (.ofNat 0, .ofNat 9), .inl (.ofNat 0, .ofNat 999)], [91, 93], false, [([(.ofNat 0, .ofNat 7), (.ofNat 1, .ofNat 8), (.ofNat 0, .ofNat 9), (.ofNat 0, .ofNat 999)], .inl fr, [])], [])
def cg_X12_givesBy_35 : List (Nat × AK) := [(408, ck_X12_laysNow_0), (490, ck_X12_has_0), (372, ck_X12_longOf_0), (396, ck_X12_growsOf_0), (378, ck_X12_least_0)]
def ca_X12_givesBy_35 : List (Nat × AA) := [(18, [(.ofNat 0, .ofNat 0), (.ofNat 0, .ofNat 7), (.ofNat 1, .ofNat 8), (.ofNat 0, .ofNat 9), (.ofNat 0, .ofNat 999), fr, (.ofNat 0, .ofNat 8)], [.inr (.inl [67]), .inl (1, .ofNat 0), .inl (2, .ofNat 0), .inl (3, .ofNat 0), .inl (4, .ofNat 0), .inl (5, .ofNat 0), .inl (6, .ofNat 0)], [], [(93, 64, 3, .ofNat 0)], [(0, 5, 0), (0, 6, 0)], (.ofNat 8, [.ofNat 0, .ofNat 0, .ofNat 0, .ofNat 0, .ofNat 0, .ofNat 0, .negSucc 0]))]
set_option maxRecDepth 100000 in
theorem cc_X12_givesBy_35 : aChk QPl CF ck_X12_givesBy_35 cg_X12_givesBy_35 xxX12 mX12_givesBy tX12_givesBy ca_X12_givesBy_35 [] 9 = true := by decide +kernel
theorem cx_X12_givesBy_35 : ctsO QQ CF xxX12 cg_X12_givesBy_35 := ctsO_cons rfl ct_X12_laysNow_0 (ctsO_cons rfl ct_X12_has_0 (ctsO_cons rfl ct_X12_longOf_0 (ctsO_cons rfl ct_X12_growsOf_0 (ctsO_cons rfl ct_X12_least_0 (ctsO_nil)))))
theorem ct_X12_givesBy_35 : ctrO QQ CF ck_X12_givesBy_35 mX12_givesBy := chk_ok (Q := QQ) (QP := QPl) (C := CF) (c := ck_X12_givesBy_35) (G := cg_X12_givesBy_35) (X := xxX12) (M := mX12_givesBy) (t := tX12_givesBy) (anns := ca_X12_givesBy_35) 9 xx12 pl12 rfl kX12_givesBy qq_ok cx_X12_givesBy_35 cc_X12_givesBy_35
def ck_X12_givesBy_36 : AK := (10, [.inr (.inl [67]), .inl (.ofNat 0, .ofNat 7), .inl (.ofNat 1, .ofNat 8), .inl (.ofNat 0, .ofNat 9), .inl (.ofNat 0, .ofNat 1599)], [91, 93], false, [([(.ofNat 0, .ofNat 7), (.ofNat 1, .ofNat 8), (.ofNat 0, .ofNat 9), (.ofNat 0, .ofNat 1599)], .inl fr, [])], [])
def cg_X12_givesBy_36 : List (Nat × AK) := [(408, ck_X12_laysNow_0), (490, ck_X12_has_0), (372, ck_X12_longOf_0), (396, ck_X12_growsOf_0), (378, ck_X12_least_0)]
def ca_X12_givesBy_36 : List (Nat × AA) := [(18, [(.ofNat 0, .ofNat 0), (.ofNat 0, .ofNat 7), (.ofNat 1, .ofNat 8), (.ofNat 0, .ofNat 9), (.ofNat 0, .ofNat 1599), fr, (.ofNat 0, .ofNat 8)], [.inr (.inl [67]), .inl (1, .ofNat 0), .inl (2, .ofNat 0), .inl (3, .ofNat 0), .inl (4, .ofNat 0), .inl (5, .ofNat 0), .inl (6, .ofNat 0)], [], [(93, 64, 3, .ofNat 0)], [(0, 5, 0), (0, 6, 0)], (.ofNat 8, [.ofNat 0, .ofNat 0, .ofNat 0, .ofNat 0, .ofNat 0, .ofNat 0, .negSucc 0]))]
set_option maxRecDepth 100000 in
theorem cc_X12_givesBy_36 : aChk QPl CF ck_X12_givesBy_36 cg_X12_givesBy_36 xxX12 mX12_givesBy tX12_givesBy ca_X12_givesBy_36 [] 9 = true := by decide +kernel
theorem cx_X12_givesBy_36 : ctsO QQ CF xxX12 cg_X12_givesBy_36 := ctsO_cons rfl ct_X12_laysNow_0 (ctsO_cons rfl ct_X12_has_0 (ctsO_cons rfl ct_X12_longOf_0 (ctsO_cons rfl ct_X12_growsOf_0 (ctsO_cons rfl ct_X12_least_0 (ctsO_nil)))))
theorem ct_X12_givesBy_36 : ctrO QQ CF ck_X12_givesBy_36 mX12_givesBy := chk_ok (Q := QQ) (QP := QPl) (C := CF) (c := ck_X12_givesBy_36) (G := cg_X12_givesBy_36) (X := xxX12) (M := mX12_givesBy) (t := tX12_givesBy) (anns := ca_X12_givesBy_36) 9 xx12 pl12 rfl kX12_givesBy qq_ok cx_X12_givesBy_36 cc_X12_givesBy_36
def ck_X12_givesBy_37 : AK := (10, [.inr (.inl [67]), .inl (.ofNat 0, .ofNat 7), .inl (.ofNat 1, .ofNat 8), .inl (.ofNat 0, .ofNat 9), .inl (.ofNat 0, .ofNat 1600)], [91, 93], false, [([(.ofNat 0, .ofNat 7), (.ofNat 1, .ofNat 8), (.ofNat 0, .ofNat 9), (.ofNat 0, .ofNat 1600)], .inl fr, [])], [])
def cg_X12_givesBy_37 : List (Nat × AK) := [(408, ck_X12_laysNow_0), (490, ck_X12_has_0), (372, ck_X12_longOf_0), (396, ck_X12_growsOf_0), (378, ck_X12_least_0)]
def ca_X12_givesBy_37 : List (Nat × AA) := [(18, [(.ofNat 0, .ofNat 0), (.ofNat 0, .ofNat 7), (.ofNat 1, .ofNat 8), (.ofNat 0, .ofNat 9), (.ofNat 0, .ofNat 1600), fr, (.ofNat 0, .ofNat 8)], [.inr (.inl [67]), .inl (1, .ofNat 0), .inl (2, .ofNat 0), .inl (3, .ofNat 0), .inl (4, .ofNat 0), .inl (5, .ofNat 0), .inl (6, .ofNat 0)], [], [(93, 64, 3, .ofNat 0)], [(0, 5, 0), (0, 6, 0)], (.ofNat 8, [.ofNat 0, .ofNat 0, .ofNat 0, .ofNat 0, .ofNat 0, .ofNat 0, .negSucc 0]))]
set_option maxRecDepth 100000 in
theorem cc_X12_givesBy_37 : aChk QPl CF ck_X12_givesBy_37 cg_X12_givesBy_37 xxX12 mX12_givesBy tX12_givesBy ca_X12_givesBy_37 [] 9 = true := by decide +kernel
theorem cx_X12_givesBy_37 : ctsO QQ CF xxX12 cg_X12_givesBy_37 := ctsO_cons rfl ct_X12_laysNow_0 (ctsO_cons rfl ct_X12_has_0 (ctsO_cons rfl ct_X12_longOf_0 (ctsO_cons rfl ct_X12_growsOf_0 (ctsO_cons rfl ct_X12_least_0 (ctsO_nil)))))
theorem ct_X12_givesBy_37 : ctrO QQ CF ck_X12_givesBy_37 mX12_givesBy := chk_ok (Q := QQ) (QP := QPl) (C := CF) (c := ck_X12_givesBy_37) (G := cg_X12_givesBy_37) (X := xxX12) (M := mX12_givesBy) (t := tX12_givesBy) (anns := ca_X12_givesBy_37) 9 xx12 pl12 rfl kX12_givesBy qq_ok cx_X12_givesBy_37 cc_X12_givesBy_37
def ck_X12_givesBy_38 : AK := (10, [.inr (.inl [67]), .inl (.ofNat 0, .ofNat 7), .inl (.ofNat 1, .ofNat 8), .inl (.ofNat 0, .ofNat 9), .inl (.ofNat 0, .ofNat 2138)], [91, 93], false, [([(.ofNat 0, .ofNat 7), (.ofNat 1, .ofNat 8), (.ofNat 0, .ofNat 9), (.ofNat 0, .ofNat 2138)], .inl fr, [])], [])
def cg_X12_givesBy_38 : List (Nat × AK) := [(408, ck_X12_laysNow_0), (490, ck_X12_has_0), (372, ck_X12_longOf_0), (396, ck_X12_growsOf_0), (378, ck_X12_least_0)]
def ca_X12_givesBy_38 : List (Nat × AA) := [(18, [(.ofNat 0, .ofNat 0), (.ofNat 0, .ofNat 7), (.ofNat 1, .ofNat 8), (.ofNat 0, .ofNat 9), (.ofNat 0, .ofNat 2138), fr, (.ofNat 0, .ofNat 8)], [.inr (.inl [67]), .inl (1, .ofNat 0), .inl (2, .ofNat 0), .inl (3, .ofNat 0), .inl (4, .ofNat 0), .inl (5, .ofNat 0), .inl (6, .ofNat 0)], [], [(93, 64, 3, .ofNat 0)], [(0, 5, 0), (0, 6, 0)], (.ofNat 8, [.ofNat 0, .ofNat 0, .ofNat 0, .ofNat 0, .ofNat 0, .ofNat 0, .negSucc 0]))]
set_option maxRecDepth 100000 in
theorem cc_X12_givesBy_38 : aChk QPl CF ck_X12_givesBy_38 cg_X12_givesBy_38 xxX12 mX12_givesBy tX12_givesBy ca_X12_givesBy_38 [] 9 = true := by decide +kernel
theorem cx_X12_givesBy_38 : ctsO QQ CF xxX12 cg_X12_givesBy_38 := ctsO_cons rfl ct_X12_laysNow_0 (ctsO_cons rfl ct_X12_has_0 (ctsO_cons rfl ct_X12_longOf_0 (ctsO_cons rfl ct_X12_growsOf_0 (ctsO_cons rfl ct_X12_least_0 (ctsO_nil)))))
theorem ct_X12_givesBy_38 : ctrO QQ CF ck_X12_givesBy_38 mX12_givesBy := chk_ok (Q := QQ) (QP := QPl) (C := CF) (c := ck_X12_givesBy_38) (G := cg_X12_givesBy_38) (X := xxX12) (M := mX12_givesBy) (t := tX12_givesBy) (anns := ca_X12_givesBy_38) 9 xx12 pl12 rfl kX12_givesBy qq_ok cx_X12_givesBy_38 cc_X12_givesBy_38
def ck_X12_givesBy_39 : AK := (10, [.inr (.inl [67]), .inl (.ofNat 0, .ofNat 7), .inl (.ofNat 1, .ofNat 8), .inl (.ofNat 0, .ofNat 9), .inl (.ofNat 0, .ofNat 2139)], [91, 93], false, [([(.ofNat 0, .ofNat 7), (.ofNat 1, .ofNat 8), (.ofNat 0, .ofNat 9), (.ofNat 0, .ofNat 2139)], .inl fr, [])], [])
def cg_X12_givesBy_39 : List (Nat × AK) := [(408, ck_X12_laysNow_0), (490, ck_X12_has_0), (372, ck_X12_longOf_0), (396, ck_X12_growsOf_0), (378, ck_X12_least_0)]
def ca_X12_givesBy_39 : List (Nat × AA) := [(18, [(.ofNat 0, .ofNat 0), (.ofNat 0, .ofNat 7), (.ofNat 1, .ofNat 8), (.ofNat 0, .ofNat 9), (.ofNat 0, .ofNat 2139), fr, (.ofNat 0, .ofNat 8)], [.inr (.inl [67]), .inl (1, .ofNat 0), .inl (2, .ofNat 0), .inl (3, .ofNat 0), .inl (4, .ofNat 0), .inl (5, .ofNat 0), .inl (6, .ofNat 0)], [], [(93, 64, 3, .ofNat 0)], [(0, 5, 0), (0, 6, 0)], (.ofNat 8, [.ofNat 0, .ofNat 0, .ofNat 0, .ofNat 0, .ofNat 0, .ofNat 0, .negSucc 0]))]
set_option maxRecDepth 100000 in
theorem cc_X12_givesBy_39 : aChk QPl CF ck_X12_givesBy_39 cg_X12_givesBy_39 xxX12 mX12_givesBy tX12_givesBy ca_X12_givesBy_39 [] 9 = true := by decide +kernel
theorem cx_X12_givesBy_39 : ctsO QQ CF xxX12 cg_X12_givesBy_39 := ctsO_cons rfl ct_X12_laysNow_0 (ctsO_cons rfl ct_X12_has_0 (ctsO_cons rfl ct_X12_longOf_0 (ctsO_cons rfl ct_X12_growsOf_0 (ctsO_cons rfl ct_X12_least_0 (ctsO_nil)))))
theorem ct_X12_givesBy_39 : ctrO QQ CF ck_X12_givesBy_39 mX12_givesBy := chk_ok (Q := QQ) (QP := QPl) (C := CF) (c := ck_X12_givesBy_39) (G := cg_X12_givesBy_39) (X := xxX12) (M := mX12_givesBy) (t := tX12_givesBy) (anns := ca_X12_givesBy_39) 9 xx12 pl12 rfl kX12_givesBy qq_ok cx_X12_givesBy_39 cc_X12_givesBy_39
def ck_X12_givesBy_40 : AK := (10, [.inr (.inl [67]), .inl (.ofNat 0, .ofNat 7), .inl (.ofNat 1, .ofNat 8), .inl (.ofNat 0, .ofNat 9), .inl (.ofNat 0, .ofNat 2199)], [91, 93], false, [([(.ofNat 0, .ofNat 7), (.ofNat 1, .ofNat 8), (.ofNat 0, .ofNat 9), (.ofNat 0, .ofNat 2199)], .inl fr, [])], [])
def cg_X12_givesBy_40 : List (Nat × AK) := [(408, ck_X12_laysNow_0), (490, ck_X12_has_0), (372, ck_X12_longOf_0), (396, ck_X12_growsOf_0), (378, ck_X12_least_0)]
def ca_X12_givesBy_40 : List (Nat × AA) := [(18, [(.ofNat 0, .ofNat 0), (.ofNat 0, .ofNat 7), (.ofNat 1, .ofNat 8), (.ofNat 0, .ofNat 9), (.ofNat 0, .ofNat 2199), fr, (.ofNat 0, .ofNat 8)], [.inr (.inl [67]), .inl (1, .ofNat 0), .inl (2, .ofNat 0), .inl (3, .ofNat 0), .inl (4, .ofNat 0), .inl (5, .ofNat 0), .inl (6, .ofNat 0)], [], [(93, 64, 3, .ofNat 0)], [(0, 5, 0), (0, 6, 0)], (.ofNat 8, [.ofNat 0, .ofNat 0, .ofNat 0, .ofNat 0, .ofNat 0, .ofNat 0, .negSucc 0]))]
set_option maxRecDepth 100000 in
theorem cc_X12_givesBy_40 : aChk QPl CF ck_X12_givesBy_40 cg_X12_givesBy_40 xxX12 mX12_givesBy tX12_givesBy ca_X12_givesBy_40 [] 9 = true := by decide +kernel
theorem cx_X12_givesBy_40 : ctsO QQ CF xxX12 cg_X12_givesBy_40 := ctsO_cons rfl ct_X12_laysNow_0 (ctsO_cons rfl ct_X12_has_0 (ctsO_cons rfl ct_X12_longOf_0 (ctsO_cons rfl ct_X12_growsOf_0 (ctsO_cons rfl ct_X12_least_0 (ctsO_nil)))))
theorem ct_X12_givesBy_40 : ctrO QQ CF ck_X12_givesBy_40 mX12_givesBy := chk_ok (Q := QQ) (QP := QPl) (C := CF) (c := ck_X12_givesBy_40) (G := cg_X12_givesBy_40) (X := xxX12) (M := mX12_givesBy) (t := tX12_givesBy) (anns := ca_X12_givesBy_40) 9 xx12 pl12 rfl kX12_givesBy qq_ok cx_X12_givesBy_40 cc_X12_givesBy_40
def ck_X12_givesBy_41 : AK := (10, [.inr (.inl [67]), .inl (.ofNat 0, .ofNat 7), .inl (.ofNat 1, .ofNat 8), .inl (.ofNat 0, .ofNat 9), .inl (.ofNat 0, .ofNat 2147483646)], [91, 93], false, [([(.ofNat 0, .ofNat 7), (.ofNat 1, .ofNat 8), (.ofNat 0, .ofNat 9), (.ofNat 0, .ofNat 2147483646)], .inl fr, [])], [])
def cg_X12_givesBy_41 : List (Nat × AK) := [(408, ck_X12_laysNow_0), (490, ck_X12_has_0), (372, ck_X12_longOf_0), (396, ck_X12_growsOf_0), (378, ck_X12_least_0)]
def ca_X12_givesBy_41 : List (Nat × AA) := [(18, [(.ofNat 0, .ofNat 0), (.ofNat 0, .ofNat 7), (.ofNat 1, .ofNat 8), (.ofNat 0, .ofNat 9), (.ofNat 0, .ofNat 2147483646), fr, (.ofNat 0, .ofNat 8)], [.inr (.inl [67]), .inl (1, .ofNat 0), .inl (2, .ofNat 0), .inl (3, .ofNat 0), .inl (4, .ofNat 0), .inl (5, .ofNat 0), .inl (6, .ofNat 0)], [], [(93, 64, 3, .ofNat 0)], [(0, 5, 0), (0, 6, 0)], (.ofNat 8, [.ofNat 0, .ofNat 0, .ofNat 0, .ofNat 0, .ofNat 0, .ofNat 0, .negSucc 0]))]
set_option maxRecDepth 100000 in
theorem cc_X12_givesBy_41 : aChk QPl CF ck_X12_givesBy_41 cg_X12_givesBy_41 xxX12 mX12_givesBy tX12_givesBy ca_X12_givesBy_41 [] 9 = true := by decide +kernel
theorem cx_X12_givesBy_41 : ctsO QQ CF xxX12 cg_X12_givesBy_41 := ctsO_cons rfl ct_X12_laysNow_0 (ctsO_cons rfl ct_X12_has_0 (ctsO_cons rfl ct_X12_longOf_0 (ctsO_cons rfl ct_X12_growsOf_0 (ctsO_cons rfl ct_X12_least_0 (ctsO_nil)))))
theorem ct_X12_givesBy_41 : ctrO QQ CF ck_X12_givesBy_41 mX12_givesBy := chk_ok (Q := QQ) (QP := QPl) (C := CF) (c := ck_X12_givesBy_41) (G := cg_X12_givesBy_41) (X := xxX12) (M := mX12_givesBy) (t := tX12_givesBy) (anns := ca_X12_givesBy_41) 9 xx12 pl12 rfl kX12_givesBy qq_ok cx_X12_givesBy_41 cc_X12_givesBy_41
def ck_X12_over_0 : AK := (11, [.inr (.inl [67]), .inl fr, .inl fr, .inl fr, .inl fr], [91, 93], false, [([fr, fr, fr, fr], .inl (.negSucc 0, .negSucc 0), []), ([(.ofNat 0, .ofNat 7), (.ofNat 1, .ofNat 8), (.ofNat 0, .ofNat 9), (.ofNat 0, .ofNat 1)], .inl fr, [])], [])
def cg_X12_over_0 : List (Nat × AK) := [(421, ck_X12_isThing_0), (116, ck_X12_in_18), (116, ck_X12_in_19), (116, ck_X12_in_12), (496, ck_X12_givesBy_41), (490, ck_X12_has_0)]
def ca_X12_over_0 : List (Nat × AA) := [(49, [(.ofNat 0, .ofNat 0), (.ofNat 0, .ofNat 7), (.ofNat 1, .ofNat 8), (.ofNat 0, .ofNat 9), (.ofNat 0, .ofNat 1), (.negSucc 0, .ofNat 2147483647), (.ofNat 0, .ofNat 2147483646), (.ofNat 0, .ofNat 2147483647)], [.inr (.inl [67]), .inl (1, .ofNat 0), .inl (2, .ofNat 0), .inl (3, .ofNat 0), .inl (4, .ofNat 0), .inl (5, .ofNat 0), .inl (6, .ofNat 0), .inl (7, .ofNat 0), .inr (.inr 0)], [], [], [(0, 5, 0), (0, 6, 0), (0, 7, 0)], (.ofNat 2147483656, [.ofNat 0, .ofNat 0, .ofNat 0, .ofNat 0, .ofNat 0, .ofNat 0, .ofNat 0, .negSucc 0])), (103, [(.ofNat 0, .ofNat 0), (.ofNat 0, .ofNat 7), (.ofNat 1, .ofNat 8), (.ofNat 0, .ofNat 9), (.ofNat 1, .ofNat 1), (.negSucc 0, .ofNat 2147483647), (.ofNat 0, .ofNat 2147483646), fr, (.ofNat 0, .ofNat 8)], [.inr (.inl [67]), .inl (1, .ofNat 0), .inl (2, .ofNat 0), .inl (3, .ofNat 0), .inl (4, .ofNat 0), .inl (5, .ofNat 0), .inl (6, .ofNat 0), .inl (7, .ofNat 0), .inl (8, .ofNat 0)], [], [], [(0, 5, 0), (0, 6, 0), (0, 7, 0), (0, 8, 0)], (.ofNat 8, [.ofNat 0, .ofNat 0, .ofNat 0, .ofNat 0, .ofNat 0, .ofNat 0, .ofNat 0, .ofNat 0, .negSucc 0]))]
set_option maxRecDepth 100000 in
theorem cc_X12_over_0 : aChk QPl CF ck_X12_over_0 cg_X12_over_0 xxX12 mX12_over tX12_over ca_X12_over_0 [] 2147483657 = true := by decide +kernel
theorem cx_X12_over_0 : ctsO QQ CF xxX12 cg_X12_over_0 := ctsO_cons rfl ct_X12_isThing_0 (ctsO_cons rfl ct_X12_in_18 (ctsO_cons rfl ct_X12_in_19 (ctsO_cons rfl ct_X12_in_12 (ctsO_cons rfl ct_X12_givesBy_41 (ctsO_cons rfl ct_X12_has_0 (ctsO_nil))))))
theorem ct_X12_over_0 : ctrO QQ CF ck_X12_over_0 mX12_over := chk_ok (Q := QQ) (QP := QPl) (C := CF) (c := ck_X12_over_0) (G := cg_X12_over_0) (X := xxX12) (M := mX12_over) (t := tX12_over) (anns := ca_X12_over_0) 2147483657 xx12 pl12 rfl kX12_over qq_ok cx_X12_over_0 cc_X12_over_0
def ck_X12_hoursOf_0 : AK := (10, [.inr (.inl [67]), .inl (.ofNat 0, .ofNat 0), .inl (.ofNat 1, .ofNat 999), .inl (.ofNat 0, .ofNat 999)], [91, 93], false, [([(.ofNat 0, .ofNat 0), (.ofNat 1, .ofNat 999), (.ofNat 0, .ofNat 999)], .inl fr, [])], [])
def cg_X12_hoursOf_0 : List (Nat × AK) := [(408, ck_X12_laysNow_0), (372, ck_X12_longOf_0)]
def ca_X12_hoursOf_0 : List (Nat × AA) := [(36, [(.ofNat 0, .ofNat 0), (.ofNat 0, .ofNat 0), (.ofNat 1, .ofNat 999), (.ofNat 0, .ofNat 999), fr, (.ofNat 0, .ofNat 10), (.ofNat 100, .ofNat 100), (.ofNat 0, .ofNat 0)], [.inr (.inl [67]), .inl (1, .ofNat 0), .inl (2, .ofNat 0), .inl (3, .ofNat 0), .inl (4, .ofNat 0), .inl (5, .ofNat 0)], [], [(93, 0, 6, .ofNat 0), (93, 66, 7, .ofNat 0), (93, 65, 3, .ofNat 0)], [(0, 4, 0), (0, 5, 0), (2, 93, 0), (2, 93, 66)], (.ofNat 10, [.ofNat 0, .ofNat 0, .ofNat 0, .ofNat 0, .ofNat 0, .negSucc 0, .ofNat 0, .ofNat 0]))]
set_option maxRecDepth 100000 in
theorem cc_X12_hoursOf_0 : aChk QPl CF ck_X12_hoursOf_0 cg_X12_hoursOf_0 xxX12 mX12_hoursOf tX12_hoursOf ca_X12_hoursOf_0 [] 11 = true := by decide +kernel
theorem cx_X12_hoursOf_0 : ctsO QQ CF xxX12 cg_X12_hoursOf_0 := ctsO_cons rfl ct_X12_laysNow_0 (ctsO_cons rfl ct_X12_longOf_0 (ctsO_nil))
theorem ct_X12_hoursOf_0 : ctrO QQ CF ck_X12_hoursOf_0 mX12_hoursOf := chk_ok (Q := QQ) (QP := QPl) (C := CF) (c := ck_X12_hoursOf_0) (G := cg_X12_hoursOf_0) (X := xxX12) (M := mX12_hoursOf) (t := tX12_hoursOf) (anns := ca_X12_hoursOf_0) 11 xx12 pl12 rfl kX12_hoursOf qq_ok cx_X12_hoursOf_0 cc_X12_hoursOf_0
def ck_X12_hoursOf_1 : AK := (10, [.inr (.inl [67]), .inl (.ofNat 0, .ofNat 1), .inl (.ofNat 1, .ofNat 999), .inl (.ofNat 0, .ofNat 999)], [91, 93], false, [([(.ofNat 0, .ofNat 1), (.ofNat 1, .ofNat 999), (.ofNat 0, .ofNat 999)], .inl fr, [])], [])
def cg_X12_hoursOf_1 : List (Nat × AK) := [(408, ck_X12_laysNow_0), (372, ck_X12_longOf_0)]
def ca_X12_hoursOf_1 : List (Nat × AA) := [(36, [(.ofNat 0, .ofNat 0), (.ofNat 0, .ofNat 1), (.ofNat 1, .ofNat 999), (.ofNat 0, .ofNat 999), fr, (.ofNat 0, .ofNat 10), (.ofNat 0, .ofNat 0)], [.inr (.inl [67]), .inl (1, .ofNat 0), .inl (2, .ofNat 0), .inl (3, .ofNat 0), .inl (4, .ofNat 0), .inl (5, .ofNat 0)], [], [(93, 66, 6, .ofNat 0), (93, 65, 3, .ofNat 0)], [(0, 4, 0), (0, 5, 0), (2, 93, 66)], (.ofNat 10, [.ofNat 0, .ofNat 0, .ofNat 0, .ofNat 0, .ofNat 0, .negSucc 0, .ofNat 0]))]
set_option maxRecDepth 100000 in
theorem cc_X12_hoursOf_1 : aChk QPl CF ck_X12_hoursOf_1 cg_X12_hoursOf_1 xxX12 mX12_hoursOf tX12_hoursOf ca_X12_hoursOf_1 [] 11 = true := by decide +kernel
theorem cx_X12_hoursOf_1 : ctsO QQ CF xxX12 cg_X12_hoursOf_1 := ctsO_cons rfl ct_X12_laysNow_0 (ctsO_cons rfl ct_X12_longOf_0 (ctsO_nil))
theorem ct_X12_hoursOf_1 : ctrO QQ CF ck_X12_hoursOf_1 mX12_hoursOf := chk_ok (Q := QQ) (QP := QPl) (C := CF) (c := ck_X12_hoursOf_1) (G := cg_X12_hoursOf_1) (X := xxX12) (M := mX12_hoursOf) (t := tX12_hoursOf) (anns := ca_X12_hoursOf_1) 11 xx12 pl12 rfl kX12_hoursOf qq_ok cx_X12_hoursOf_1 cc_X12_hoursOf_1
def ck_X12_hoursOf_2 : AK := (10, [.inr (.inl [67]), .inl (.ofNat 0, .ofNat 2), .inl (.ofNat 1, .ofNat 999), .inl (.ofNat 0, .ofNat 999)], [91, 93], false, [([(.ofNat 0, .ofNat 2), (.ofNat 1, .ofNat 999), (.ofNat 0, .ofNat 999)], .inl fr, [])], [])
def cg_X12_hoursOf_2 : List (Nat × AK) := [(408, ck_X12_laysNow_0), (372, ck_X12_longOf_0)]
def ca_X12_hoursOf_2 : List (Nat × AA) := [(36, [(.ofNat 0, .ofNat 0), (.ofNat 0, .ofNat 2), (.ofNat 1, .ofNat 999), (.ofNat 0, .ofNat 999), fr, (.ofNat 0, .ofNat 10), (.ofNat 0, .ofNat 0)], [.inr (.inl [67]), .inl (1, .ofNat 0), .inl (2, .ofNat 0), .inl (3, .ofNat 0), .inl (4, .ofNat 0), .inl (5, .ofNat 0)], [], [(93, 66, 6, .ofNat 0), (93, 65, 3, .ofNat 0)], [(0, 4, 0), (0, 5, 0), (2, 93, 66)], (.ofNat 10, [.ofNat 0, .ofNat 0, .ofNat 0, .ofNat 0, .ofNat 0, .negSucc 0, .ofNat 0]))]
set_option maxRecDepth 100000 in
theorem cc_X12_hoursOf_2 : aChk QPl CF ck_X12_hoursOf_2 cg_X12_hoursOf_2 xxX12 mX12_hoursOf tX12_hoursOf ca_X12_hoursOf_2 [] 11 = true := by decide +kernel
theorem cx_X12_hoursOf_2 : ctsO QQ CF xxX12 cg_X12_hoursOf_2 := ctsO_cons rfl ct_X12_laysNow_0 (ctsO_cons rfl ct_X12_longOf_0 (ctsO_nil))
theorem ct_X12_hoursOf_2 : ctrO QQ CF ck_X12_hoursOf_2 mX12_hoursOf := chk_ok (Q := QQ) (QP := QPl) (C := CF) (c := ck_X12_hoursOf_2) (G := cg_X12_hoursOf_2) (X := xxX12) (M := mX12_hoursOf) (t := tX12_hoursOf) (anns := ca_X12_hoursOf_2) 11 xx12 pl12 rfl kX12_hoursOf qq_ok cx_X12_hoursOf_2 cc_X12_hoursOf_2
def ck_X12_hoursOf_3 : AK := (10, [.inr (.inl [67]), .inl (.ofNat 0, .ofNat 3), .inl (.ofNat 1, .ofNat 999), .inl (.ofNat 0, .ofNat 999)], [91, 93], false, [([(.ofNat 0, .ofNat 3), (.ofNat 1, .ofNat 999), (.ofNat 0, .ofNat 999)], .inl fr, [])], [])
def cg_X12_hoursOf_3 : List (Nat × AK) := [(408, ck_X12_laysNow_0), (372, ck_X12_longOf_0)]
def ca_X12_hoursOf_3 : List (Nat × AA) := [(36, [(.ofNat 0, .ofNat 0), (.ofNat 0, .ofNat 3), (.ofNat 1, .ofNat 999), (.ofNat 0, .ofNat 999), fr, (.ofNat 0, .ofNat 10), (.ofNat 0, .ofNat 0)], [.inr (.inl [67]), .inl (1, .ofNat 0), .inl (2, .ofNat 0), .inl (3, .ofNat 0), .inl (4, .ofNat 0), .inl (5, .ofNat 0)], [], [(93, 66, 6, .ofNat 0), (93, 65, 3, .ofNat 0)], [(0, 4, 0), (0, 5, 0), (2, 93, 66)], (.ofNat 10, [.ofNat 0, .ofNat 0, .ofNat 0, .ofNat 0, .ofNat 0, .negSucc 0, .ofNat 0]))]
set_option maxRecDepth 100000 in
theorem cc_X12_hoursOf_3 : aChk QPl CF ck_X12_hoursOf_3 cg_X12_hoursOf_3 xxX12 mX12_hoursOf tX12_hoursOf ca_X12_hoursOf_3 [] 11 = true := by decide +kernel
theorem cx_X12_hoursOf_3 : ctsO QQ CF xxX12 cg_X12_hoursOf_3 := ctsO_cons rfl ct_X12_laysNow_0 (ctsO_cons rfl ct_X12_longOf_0 (ctsO_nil))
theorem ct_X12_hoursOf_3 : ctrO QQ CF ck_X12_hoursOf_3 mX12_hoursOf := chk_ok (Q := QQ) (QP := QPl) (C := CF) (c := ck_X12_hoursOf_3) (G := cg_X12_hoursOf_3) (X := xxX12) (M := mX12_hoursOf) (t := tX12_hoursOf) (anns := ca_X12_hoursOf_3) 11 xx12 pl12 rfl kX12_hoursOf qq_ok cx_X12_hoursOf_3 cc_X12_hoursOf_3
def ck_X12_hoursOf_4 : AK := (10, [.inr (.inl [67]), .inl (.ofNat 0, .ofNat 4), .inl (.ofNat 1, .ofNat 999), .inl (.ofNat 0, .ofNat 999)], [91, 93], false, [([(.ofNat 0, .ofNat 4), (.ofNat 1, .ofNat 999), (.ofNat 0, .ofNat 999)], .inl fr, [])], [])
def cg_X12_hoursOf_4 : List (Nat × AK) := [(408, ck_X12_laysNow_0), (372, ck_X12_longOf_0)]
def ca_X12_hoursOf_4 : List (Nat × AA) := [(36, [(.ofNat 0, .ofNat 0), (.ofNat 0, .ofNat 4), (.ofNat 1, .ofNat 999), (.ofNat 0, .ofNat 999), fr, (.ofNat 0, .ofNat 10), (.ofNat 0, .ofNat 0)], [.inr (.inl [67]), .inl (1, .ofNat 0), .inl (2, .ofNat 0), .inl (3, .ofNat 0), .inl (4, .ofNat 0), .inl (5, .ofNat 0)], [], [(93, 66, 6, .ofNat 0), (93, 65, 3, .ofNat 0)], [(0, 4, 0), (0, 5, 0), (2, 93, 66)], (.ofNat 10, [.ofNat 0, .ofNat 0, .ofNat 0, .ofNat 0, .ofNat 0, .negSucc 0, .ofNat 0]))]
set_option maxRecDepth 100000 in
theorem cc_X12_hoursOf_4 : aChk QPl CF ck_X12_hoursOf_4 cg_X12_hoursOf_4 xxX12 mX12_hoursOf tX12_hoursOf ca_X12_hoursOf_4 [] 11 = true := by decide +kernel
theorem cx_X12_hoursOf_4 : ctsO QQ CF xxX12 cg_X12_hoursOf_4 := ctsO_cons rfl ct_X12_laysNow_0 (ctsO_cons rfl ct_X12_longOf_0 (ctsO_nil))
theorem ct_X12_hoursOf_4 : ctrO QQ CF ck_X12_hoursOf_4 mX12_hoursOf := chk_ok (Q := QQ) (QP := QPl) (C := CF) (c := ck_X12_hoursOf_4) (G := cg_X12_hoursOf_4) (X := xxX12) (M := mX12_hoursOf) (t := tX12_hoursOf) (anns := ca_X12_hoursOf_4) 11 xx12 pl12 rfl kX12_hoursOf qq_ok cx_X12_hoursOf_4 cc_X12_hoursOf_4
def ck_X12_hoursOf_5 : AK := (10, [.inr (.inl [67]), .inl (.ofNat 0, .ofNat 5), .inl (.ofNat 1, .ofNat 999), .inl (.ofNat 0, .ofNat 999)], [91, 93], false, [([(.ofNat 0, .ofNat 5), (.ofNat 1, .ofNat 999), (.ofNat 0, .ofNat 999)], .inl fr, [])], [])
def cg_X12_hoursOf_5 : List (Nat × AK) := [(408, ck_X12_laysNow_0), (372, ck_X12_longOf_0)]
def ca_X12_hoursOf_5 : List (Nat × AA) := [(36, [(.ofNat 0, .ofNat 0), (.ofNat 0, .ofNat 5), (.ofNat 1, .ofNat 999), (.ofNat 0, .ofNat 999), fr, (.ofNat 0, .ofNat 10), (.ofNat 0, .ofNat 0)], [.inr (.inl [67]), .inl (1, .ofNat 0), .inl (2, .ofNat 0), .inl (3, .ofNat 0), .inl (4, .ofNat 0), .inl (5, .ofNat 0)], [], [(93, 66, 6, .ofNat 0), (93, 65, 3, .ofNat 0)], [(0, 4, 0), (0, 5, 0), (2, 93, 66)], (.ofNat 10, [.ofNat 0, .ofNat 0, .ofNat 0, .ofNat 0, .ofNat 0, .negSucc 0, .ofNat 0]))]
set_option maxRecDepth 100000 in
theorem cc_X12_hoursOf_5 : aChk QPl CF ck_X12_hoursOf_5 cg_X12_hoursOf_5 xxX12 mX12_hoursOf tX12_hoursOf ca_X12_hoursOf_5 [] 11 = true := by decide +kernel
theorem cx_X12_hoursOf_5 : ctsO QQ CF xxX12 cg_X12_hoursOf_5 := ctsO_cons rfl ct_X12_laysNow_0 (ctsO_cons rfl ct_X12_longOf_0 (ctsO_nil))
theorem ct_X12_hoursOf_5 : ctrO QQ CF ck_X12_hoursOf_5 mX12_hoursOf := chk_ok (Q := QQ) (QP := QPl) (C := CF) (c := ck_X12_hoursOf_5) (G := cg_X12_hoursOf_5) (X := xxX12) (M := mX12_hoursOf) (t := tX12_hoursOf) (anns := ca_X12_hoursOf_5) 11 xx12 pl12 rfl kX12_hoursOf qq_ok cx_X12_hoursOf_5 cc_X12_hoursOf_5
def ck_X12_hoursOf_6 : AK := (10, [.inr (.inl [67]), .inl (.ofNat 0, .ofNat 6), .inl (.ofNat 1, .ofNat 999), .inl (.ofNat 0, .ofNat 999)], [91, 93], false, [([(.ofNat 0, .ofNat 6), (.ofNat 1, .ofNat 999), (.ofNat 0, .ofNat 999)], .inl fr, [])], [])
def cg_X12_hoursOf_6 : List (Nat × AK) := [(408, ck_X12_laysNow_0), (372, ck_X12_longOf_0)]
def ca_X12_hoursOf_6 : List (Nat × AA) := [(36, [(.ofNat 0, .ofNat 0), (.ofNat 0, .ofNat 6), (.ofNat 1, .ofNat 999), (.ofNat 0, .ofNat 999), fr, (.ofNat 0, .ofNat 10), (.ofNat 0, .ofNat 0)], [.inr (.inl [67]), .inl (1, .ofNat 0), .inl (2, .ofNat 0), .inl (3, .ofNat 0), .inl (4, .ofNat 0), .inl (5, .ofNat 0)], [], [(93, 66, 6, .ofNat 0), (93, 65, 3, .ofNat 0)], [(0, 4, 0), (0, 5, 0), (2, 93, 66)], (.ofNat 10, [.ofNat 0, .ofNat 0, .ofNat 0, .ofNat 0, .ofNat 0, .negSucc 0, .ofNat 0]))]
set_option maxRecDepth 100000 in
theorem cc_X12_hoursOf_6 : aChk QPl CF ck_X12_hoursOf_6 cg_X12_hoursOf_6 xxX12 mX12_hoursOf tX12_hoursOf ca_X12_hoursOf_6 [] 11 = true := by decide +kernel
theorem cx_X12_hoursOf_6 : ctsO QQ CF xxX12 cg_X12_hoursOf_6 := ctsO_cons rfl ct_X12_laysNow_0 (ctsO_cons rfl ct_X12_longOf_0 (ctsO_nil))
theorem ct_X12_hoursOf_6 : ctrO QQ CF ck_X12_hoursOf_6 mX12_hoursOf := chk_ok (Q := QQ) (QP := QPl) (C := CF) (c := ck_X12_hoursOf_6) (G := cg_X12_hoursOf_6) (X := xxX12) (M := mX12_hoursOf) (t := tX12_hoursOf) (anns := ca_X12_hoursOf_6) 11 xx12 pl12 rfl kX12_hoursOf qq_ok cx_X12_hoursOf_6 cc_X12_hoursOf_6
def ck_X12_hoursOf_7 : AK := (10, [.inr (.inl [67]), .inl (.ofNat 0, .ofNat 7), .inl (.ofNat 1, .ofNat 999), .inl (.ofNat 0, .ofNat 999)], [91, 93], false, [([(.ofNat 0, .ofNat 7), (.ofNat 1, .ofNat 999), (.ofNat 0, .ofNat 999)], .inl fr, [])], [])
def cg_X12_hoursOf_7 : List (Nat × AK) := [(408, ck_X12_laysNow_0), (372, ck_X12_longOf_0)]
def ca_X12_hoursOf_7 : List (Nat × AA) := [(36, [(.ofNat 0, .ofNat 0), (.ofNat 0, .ofNat 7), (.ofNat 1, .ofNat 999), (.ofNat 0, .ofNat 999), fr, (.ofNat 0, .ofNat 10), (.ofNat 0, .ofNat 0)], [.inr (.inl [67]), .inl (1, .ofNat 0), .inl (2, .ofNat 0), .inl (3, .ofNat 0), .inl (4, .ofNat 0), .inl (5, .ofNat 0)], [], [(93, 66, 6, .ofNat 0), (93, 65, 3, .ofNat 0)], [(0, 4, 0), (0, 5, 0), (2, 93, 66)], (.ofNat 10, [.ofNat 0, .ofNat 0, .ofNat 0, .ofNat 0, .ofNat 0, .negSucc 0, .ofNat 0]))]
set_option maxRecDepth 100000 in
theorem cc_X12_hoursOf_7 : aChk QPl CF ck_X12_hoursOf_7 cg_X12_hoursOf_7 xxX12 mX12_hoursOf tX12_hoursOf ca_X12_hoursOf_7 [] 11 = true := by decide +kernel
theorem cx_X12_hoursOf_7 : ctsO QQ CF xxX12 cg_X12_hoursOf_7 := ctsO_cons rfl ct_X12_laysNow_0 (ctsO_cons rfl ct_X12_longOf_0 (ctsO_nil))
theorem ct_X12_hoursOf_7 : ctrO QQ CF ck_X12_hoursOf_7 mX12_hoursOf := chk_ok (Q := QQ) (QP := QPl) (C := CF) (c := ck_X12_hoursOf_7) (G := cg_X12_hoursOf_7) (X := xxX12) (M := mX12_hoursOf) (t := tX12_hoursOf) (anns := ca_X12_hoursOf_7) 11 xx12 pl12 rfl kX12_hoursOf qq_ok cx_X12_hoursOf_7 cc_X12_hoursOf_7
def ck_X12_whose_0 : AK := (11, [.inr (.inl [67]), .inl fr, .inl fr, .inl fr], [91, 93], false, [([fr, fr, fr], .inl (.negSucc 0, .negSucc 0), []), ([(.ofNat 0, .ofNat 5), (.ofNat 1, .ofNat 999), (.ofNat 0, .ofNat 999)], .inl fr, [])], [])
def cg_X12_whose_0 : List (Nat × AK) := [(116, ck_X12_in_3), (116, ck_X12_in_5), (116, ck_X12_in_15), (500, ck_X12_hoursOf_7)]
def ca_X12_whose_0 : List (Nat × AA) := [(39, [(.ofNat 0, .ofNat 0), (.ofNat 0, .ofNat 5), (.ofNat 1, .ofNat 999), (.ofNat 0, .ofNat 999), fr, (.ofNat 0, .ofNat 8)], [.inr (.inl [67]), .inl (1, .ofNat 0), .inl (2, .ofNat 0), .inl (3, .ofNat 0), .inl (4, .ofNat 0), .inl (5, .ofNat 0)], [], [], [(0, 4, 0), (0, 5, 0)], (.ofNat 8, [.ofNat 0, .ofNat 0, .ofNat 0, .ofNat 0, .ofNat 0, .negSucc 0]))]
set_option maxRecDepth 100000 in
theorem cc_X12_whose_0 : aChk QPl CF ck_X12_whose_0 cg_X12_whose_0 xxX12 mX12_whose tX12_whose ca_X12_whose_0 [] 9 = true := by decide +kernel
theorem cx_X12_whose_0 : ctsO QQ CF xxX12 cg_X12_whose_0 := ctsO_cons rfl ct_X12_in_3 (ctsO_cons rfl ct_X12_in_5 (ctsO_cons rfl ct_X12_in_15 (ctsO_cons rfl ct_X12_hoursOf_7 (ctsO_nil))))
theorem ct_X12_whose_0 : ctrO QQ CF ck_X12_whose_0 mX12_whose := chk_ok (Q := QQ) (QP := QPl) (C := CF) (c := ck_X12_whose_0) (G := cg_X12_whose_0) (X := xxX12) (M := mX12_whose) (t := tX12_whose) (anns := ca_X12_whose_0) 9 xx12 pl12 rfl kX12_whose qq_ok cx_X12_whose_0 cc_X12_whose_0
def ck_X12_at_0 : AK := (11, [.inr (.inl [67]), .inl fr, .inl fr, .inl fr], [91, 93], false, [([(.ofNat 0, .ofNat 7), (.ofNat 1, .ofNat 999), (.ofNat 0, .ofNat 999)], .inl fr, []), ([fr, fr, fr], .inl (.negSucc 0, .negSucc 0), [])], [])
def cg_X12_at_0 : List (Nat × AK) := [(421, ck_X12_isThing_0), (116, ck_X12_in_5), (116, ck_X12_in_15), (500, ck_X12_hoursOf_7)]
def ca_X12_at_0 : List (Nat × AA) := []
set_option maxRecDepth 100000 in
theorem cc_X12_at_0 : aChk QPl CF ck_X12_at_0 cg_X12_at_0 xxX12 mX12_at tX12_at ca_X12_at_0 [] 1 = true := by decide +kernel
theorem cx_X12_at_0 : ctsO QQ CF xxX12 cg_X12_at_0 := ctsO_cons rfl ct_X12_isThing_0 (ctsO_cons rfl ct_X12_in_5 (ctsO_cons rfl ct_X12_in_15 (ctsO_cons rfl ct_X12_hoursOf_7 (ctsO_nil))))
theorem ct_X12_at_0 : ctrO QQ CF ck_X12_at_0 mX12_at := chk_ok (Q := QQ) (QP := QPl) (C := CF) (c := ck_X12_at_0) (G := cg_X12_at_0) (X := xxX12) (M := mX12_at) (t := tX12_at) (anns := ca_X12_at_0) 1 xx12 pl12 rfl kX12_at qq_ok cx_X12_at_0 cc_X12_at_0
def ck_X12_leave_0 : AK := (10, [.inr (.inl [67]), .inl fr, .inl fr, .inl fr, .inl fr], [91, 93], false, [([fr, fr, fr, fr], .inl (.negSucc 0, .negSucc 0), []), ([(.ofNat 0, .ofNat 9999), (.ofNat 0, .ofNat 9999), (.ofNat 0, .ofNat 9999), (.ofNat 0, .ofNat 9999)], .inl (.ofNat 1, .ofNat 15), [])], [])
def cg_X12_leave_0 : List (Nat × AK) := [(116, ck_X12_in_9), (408, ck_X12_laysNow_0), (493, ck_X12_many_0), (372, ck_X12_longOf_0), (490, ck_X12_has_0)]
def ca_X12_leave_0 : List (Nat × AA) := [(54, [(.ofNat 0, .ofNat 0), (.ofNat 0, .ofNat 9999), (.ofNat 0, .ofNat 9999), (.ofNat 0, .ofNat 9999), (.ofNat 0, .ofNat 9999), (.ofNat 1, .ofNat 16)], [.inr (.inl [67]), .inl (1, .ofNat 0), .inl (2, .ofNat 0), .inl (3, .ofNat 0), .inl (4, .ofNat 0), .inl (5, .ofNat 0), .inr (.inr 0), .inr (.inr 0), .inr (.inr 0)], [], [], [(0, 5, 0)], (.ofNat 169, [.ofNat 0, .ofNat 0, .ofNat 0, .ofNat 0, .ofNat 0, .negSucc 9])), (67, [(.ofNat 0, .ofNat 0), (.ofNat 0, .ofNat 9999), (.ofNat 0, .ofNat 9999), (.ofNat 0, .ofNat 9999), (.ofNat 0, .ofNat 9999), (.ofNat 1, .ofNat 15), fr, (.ofNat 0, .ofNat 8)], [.inr (.inl [67]), .inl (1, .ofNat 0), .inl (2, .ofNat 0), .inl (3, .ofNat 0), .inl (4, .ofNat 0), .inl (5, .ofNat 0), .inl (6, .ofNat 0), .inl (7, .ofNat 0), .inr (.inr 0)], [], [], [(0, 5, 0), (0, 6, 0), (0, 7, 0)], (.ofNat 168, [.ofNat 0, .ofNat 0, .ofNat 0, .ofNat 0, .ofNat 0, .negSucc 9, .ofNat 0, .negSucc 0]))]
set_option maxRecDepth 100000 in
theorem cc_X12_leave_0 : aChk QPl CF ck_X12_leave_0 cg_X12_leave_0 xxX12 mX12_leave tX12_leave ca_X12_leave_0 [] 160 = true := by decide +kernel
theorem cx_X12_leave_0 : ctsO QQ CF xxX12 cg_X12_leave_0 := ctsO_cons rfl ct_X12_in_9 (ctsO_cons rfl ct_X12_laysNow_0 (ctsO_cons rfl ct_X12_many_0 (ctsO_cons rfl ct_X12_longOf_0 (ctsO_cons rfl ct_X12_has_0 (ctsO_nil)))))
theorem ct_X12_leave_0 : ctrO QQ CF ck_X12_leave_0 mX12_leave := chk_ok (Q := QQ) (QP := QPl) (C := CF) (c := ck_X12_leave_0) (G := cg_X12_leave_0) (X := xxX12) (M := mX12_leave) (t := tX12_leave) (anns := ca_X12_leave_0) 160 xx12 pl12 rfl kX12_leave qq_ok cx_X12_leave_0 cc_X12_leave_0
def ck_X12_packed_0 : AK := (20, [.inr (.inl [67]), .inl fr, .inl fr], [96, 97, 98], false, [([fr, fr], .inl fr, [])], [])
def ck_X12_when_0 : AK := (13, [.inr (.inl [67]), .inl fr, .inl fr, .inl fr], [91, 93], false, [([fr, fr, fr], .inl (.negSucc 0, .negSucc 0), []), ([(.ofNat 0, .ofNat 11), (.ofNat 0, .ofNat 60), (.ofNat 0, .ofNat 1)], .inl (.negSucc 0, .ofNat 2147483646), [])], [])
def cg_X12_when_0 : List (Nat × AK) := [(436, ck_X12_isBale_0), (116, ck_X12_in_17), (116, ck_X12_in_12), (408, ck_X12_laysNow_0), (390, ck_X12_sellsOf_0), (417, ck_X12_canPass_0), (442, ck_X12_passesThrough_1)]
def ca_X12_when_0 : List (Nat × AA) := [(45, [(.ofNat 0, .ofNat 0), (.ofNat 0, .ofNat 11), (.ofNat 0, .ofNat 60), (.ofNat 0, .ofNat 1), (.negSucc 0, .ofNat 2147483646), (.negSucc 0, .ofNat 9999), (.ofNat 0, .ofNat 1), (.ofNat 0, .ofNat 63)], [.inr (.inl [67]), .inl (1, .ofNat 0), .inl (2, .ofNat 0), .inl (3, .ofNat 0), .inl (4, .ofNat 0), .inl (5, .ofNat 0), .inl (6, .ofNat 0), .inl (7, .ofNat 0), .inr (.inr 0)], [], [], [(0, 4, 0), (0, 5, 0), (0, 6, 0), (0, 7, 0)], (.ofNat 63, [.ofNat 0, .ofNat 0, .ofNat 0, .ofNat 0, .ofNat 0, .ofNat 0, .ofNat 0, .negSucc 0]))]
set_option maxRecDepth 100000 in
theorem cc_X12_when_0 : aChk QPl CF ck_X12_when_0 cg_X12_when_0 xxX12 mX12_when tX12_when ca_X12_when_0 [] 64 = true := by decide +kernel
theorem cx_X12_when_0 : ctsO QQ CF xxX12 cg_X12_when_0 := ctsO_cons rfl ct_X12_isBale_0 (ctsO_cons rfl ct_X12_in_17 (ctsO_cons rfl ct_X12_in_12 (ctsO_cons rfl ct_X12_laysNow_0 (ctsO_cons rfl ct_X12_sellsOf_0 (ctsO_cons rfl ct_X12_canPass_0 (ctsO_cons rfl ct_X12_passesThrough_1 (ctsO_nil)))))))
theorem ct_X12_when_0 : ctrO QQ CF ck_X12_when_0 mX12_when := chk_ok (Q := QQ) (QP := QPl) (C := CF) (c := ck_X12_when_0) (G := cg_X12_when_0) (X := xxX12) (M := mX12_when) (t := tX12_when) (anns := ca_X12_when_0) 64 xx12 pl12 rfl kX12_when qq_ok cx_X12_when_0 cc_X12_when_0
def ck_X12_hail_0 : AK := (20, [.inr (.inl [67]), .inl fr, .inl fr, .inl (.ofNat 0, .ofNat 1)], [], false, [([fr, fr, (.ofNat 0, .ofNat 1)], .inl fr, [])], [])
set_option maxRecDepth 100000 in
set_option maxHeartbeats 1000000 in
theorem ct_X12_hail_0 : ctrO QQ CF ck_X12_hail_0 mX12_hail := by
  intro l d sh I J as Rp ha hce hs hi hq hR
  obtain ⟨n, k, w, rfl, _, _, hw⟩ := ag1iii ha
  have fin : ∀ r : Int32, Rp (some (.int r)) sh I J := fun r => hR _ sh I J hs (fun _ => rfl) hi hq (fun _ _ => rfl) ⟨_, List.mem_cons_self, one_post ha ⟨r, rfl, inI_fr _⟩⟩
  exact m_hail_any l (d + 18) n k w sh I J Rp fin
def ck_X12_copies_0 : AK := (1, [.inr (.inl [67]), .inl fr], [68, 69], false, [([fr], .inr (.inr 9), [])], [])
set_option maxRecDepth 100000 in
set_option maxHeartbeats 1000000 in
theorem ct_X12_copies_0 : ctrO QQ CF ck_X12_copies_0 mX12_copies := by
  intro l d sh I J as Rp ha hce hs hi hq hR
  obtain ⟨v, rfl, _⟩ := ag1i ha
  obtain ⟨ru, ta, rs, hru, hta, rfl⟩ := shX hs
  refine hm_copies l d v ru ta rs I J Rp (fun q p hqp => ?_)
  refine hR none _ _ J hs (fun _ => rfl) (fun r k _ => ?_) (qq_ok I _ (fun r hr => cI_ne ?_) hq) (fun r hr => cI_ne ?_) ⟨_, List.mem_cons_self, one_post ha rfl⟩
  · by_cases hr : r = p
    · subst hr
      rw [cI_eq]
      simp only [va_cpy]
      by_cases hk : 0 ≤ k ∧ k < 0 + 2200
      · rw [if_pos hk, show 0 + (k - 0) = k by omega]
        rcases hqp with ⟨rfl, rfl⟩ | ⟨rfl, rfl⟩
        · rw [← cell_6 k]
          exact hi 69 k rfl
        · rw [cell_6 k]
          exact hi 68 k rfl
      · rw [if_neg hk]
        exact hi r k rfl
    · rw [cI_ne hr]
      exact hi r k rfl
  · intro h
    subst h
    rcases hqp with ⟨_, rfl⟩ | ⟨_, rfl⟩
    · exact absurd hr (by decide)
    · exact absurd hr (by decide)
  · intro h
    subst h
    rcases hqp with ⟨_, rfl⟩ | ⟨_, rfl⟩
    · exact absurd hr (by decide)
    · exact absurd hr (by decide)
def ck_X12_image_0 : AK := (2, [.inr (.inl [67])], [68, 69], false, [([], .inl fr, [])], [])
def cg_X12_image_0 : List (Nat × AK) := [(112, ck_X12_copies_0)]
def ca_X12_image_0 : List (Nat × AA) := []
set_option maxRecDepth 100000 in
theorem cc_X12_image_0 : aChk QPl CF ck_X12_image_0 cg_X12_image_0 xxX12 mX12_image tX12_image ca_X12_image_0 [] 1 = true := by decide +kernel
theorem cx_X12_image_0 : ctsO QQ CF xxX12 cg_X12_image_0 := ctsO_cons rfl ct_X12_copies_0 (ctsO_nil)
theorem ct_X12_image_0 : ctrO QQ CF ck_X12_image_0 mX12_image := chk_ok (Q := QQ) (QP := QPl) (C := CF) (c := ck_X12_image_0) (G := cg_X12_image_0) (X := xxX12) (M := mX12_image) (t := tX12_image) (anns := ca_X12_image_0) 1 xx12 pl12 rfl kX12_image qq_ok cx_X12_image_0 cc_X12_image_0
def ck_X12_back_0 : AK := (2, [.inr (.inl [67])], [68, 69], false, [([], .inl fr, [])], [])
def cg_X12_back_0 : List (Nat × AK) := [(112, ck_X12_copies_0)]
def ca_X12_back_0 : List (Nat × AA) := []
set_option maxRecDepth 100000 in
theorem cc_X12_back_0 : aChk QPl CF ck_X12_back_0 cg_X12_back_0 xxX12 mX12_back tX12_back ca_X12_back_0 [] 1 = true := by decide +kernel
theorem cx_X12_back_0 : ctsO QQ CF xxX12 cg_X12_back_0 := ctsO_cons rfl ct_X12_copies_0 (ctsO_nil)
theorem ct_X12_back_0 : ctrO QQ CF ck_X12_back_0 mX12_back := chk_ok (Q := QQ) (QP := QPl) (C := CF) (c := ck_X12_back_0) (G := cg_X12_back_0) (X := xxX12) (M := mX12_back) (t := tX12_back) (anns := ca_X12_back_0) 1 xx12 pl12 rfl kX12_back qq_ok cx_X12_back_0 cc_X12_back_0
def ck_X12_about_0 : AK := (1, [.inr (.inl [67]), .inl fr], [], false, [([(.ofNat 0, .ofNat 12)], .inl (.ofNat 0, .ofNat 300), []), ([fr], .inl (.negSucc 1, .negSucc 1), []), ([(.ofNat 3, .ofNat 9)], .inl fr, [])], [])
def cg_X12_about_0 : List (Nat × AK) := []
def ca_X12_about_0 : List (Nat × AA) := []
set_option maxRecDepth 100000 in
theorem cc_X12_about_0 : aChk QPl CF ck_X12_about_0 cg_X12_about_0 xxX12 mX12_about tX12_about ca_X12_about_0 [] 1 = true := by decide +kernel
theorem cx_X12_about_0 : ctsO QQ CF xxX12 cg_X12_about_0 := ctsO_nil
theorem ct_X12_about_0 : ctrO QQ CF ck_X12_about_0 mX12_about := chk_ok (Q := QQ) (QP := QPl) (C := CF) (c := ck_X12_about_0) (G := cg_X12_about_0) (X := xxX12) (M := mX12_about) (t := tX12_about) (anns := ca_X12_about_0) 1 xx12 pl12 rfl kX12_about qq_ok cx_X12_about_0 cc_X12_about_0
