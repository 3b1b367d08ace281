def ck_X11_within_1 : AK := (1, [.inl fr, .inl (.ofNat 0, .ofNat 0), .inl (.ofNat 5, .ofNat 5)], [], false, [([(.ofNat 0, .ofNat 5), (.ofNat 0, .ofNat 0), (.ofNat 5, .ofNat 5)], .inl (.ofNat 1, .ofNat 1), []), ([fr, (.ofNat 0, .ofNat 0), (.ofNat 5, .ofNat 5)], .inl (.ofNat 0, .ofNat 0), [])], [])
def cg_X11_within_1 : List (Nat × AK) := []
def ca_X11_within_1 : List (Nat × AA) := []
set_option maxRecDepth 100000 in
theorem cc_X11_within_1 : aChk QPl CF ck_X11_within_1 cg_X11_within_1 xxX11 mX11_within tX11_within ca_X11_within_1 [] 1 = true := by decide +kernel
theorem cx_X11_within_1 : ctsO QQ CF xxX11 cg_X11_within_1 := ctsO_nil
theorem ct_X11_within_1 : ctrO QQ CF ck_X11_within_1 mX11_within := chk_ok (Q := QQ) (QP := QPl) (C := CF) (c := ck_X11_within_1) (G := cg_X11_within_1) (X := xxX11) (M := mX11_within) (t := tX11_within) (anns := ca_X11_within_1) 1 xx11 pl11 rfl kX11_within qq_ok cx_X11_within_1 cc_X11_within_1
def ck_X11_within_3 : AK := (1, [.inl fr, .inl (.ofNat 1, .ofNat 1), .inl (.ofNat 999, .ofNat 999)], [], false, [([(.ofNat 1, .ofNat 999), (.ofNat 1, .ofNat 1), (.ofNat 999, .ofNat 999)], .inl (.ofNat 1, .ofNat 1), []), ([fr, (.ofNat 1, .ofNat 1), (.ofNat 999, .ofNat 999)], .inl (.ofNat 0, .ofNat 0), [])], [])
def cg_X11_within_3 : List (Nat × AK) := []
def ca_X11_within_3 : List (Nat × AA) := []
set_option maxRecDepth 100000 in
theorem cc_X11_within_3 : aChk QPl CF ck_X11_within_3 cg_X11_within_3 xxX11 mX11_within tX11_within ca_X11_within_3 [] 1 = true := by decide +kernel
theorem cx_X11_within_3 : ctsO QQ CF xxX11 cg_X11_within_3 := ctsO_nil
theorem ct_X11_within_3 : ctrO QQ CF ck_X11_within_3 mX11_within := chk_ok (Q := QQ) (QP := QPl) (C := CF) (c := ck_X11_within_3) (G := cg_X11_within_3) (X := xxX11) (M := mX11_within) (t := tX11_within) (anns := ca_X11_within_3) 1 xx11 pl11 rfl kX11_within qq_ok cx_X11_within_3 cc_X11_within_3
def ck_X9_hasThing_0 : AK := (1, [.inr (.inl [12]), .inl fr], [], false, [([(.ofNat 0, .ofNat 7)], .inl (.ofNat 1, .ofNat 1), []), ([fr], .inl (.ofNat 0, .ofNat 0), [])], [])
def cg_X9_hasThing_0 : List (Nat × AK) := []
def ca_X9_hasThing_0 : List (Nat × AA) := []
set_option maxRecDepth 100000 in
theorem cc_X9_hasThing_0 : aChk QPl CF ck_X9_hasThing_0 cg_X9_hasThing_0 xxX9 mX9_hasThing tX9_hasThing ca_X9_hasThing_0 [] 1 = true := by decide +kernel
theorem cx_X9_hasThing_0 : ctsO QQ CF xxX9 cg_X9_hasThing_0 := ctsO_nil
theorem ct_X9_hasThing_0 : ctrO QQ CF ck_X9_hasThing_0 mX9_hasThing := chk_ok (Q := QQ) (QP := QPl) (C := CF) (c := ck_X9_hasThing_0) (G := cg_X9_hasThing_0) (X := xxX9) (M := mX9_hasThing) (t := tX9_hasThing) (anns := ca_X9_hasThing_0) 1 xx9 pl9 rfl kX9_hasThing qq_ok cx_X9_hasThing_0 cc_X9_hasThing_0
def ck_X9_hasReaper_0 : AK := (1, [.inr (.inl [12]), .inl fr], [], false, [([(.ofNat 0, .ofNat 3)], .inl (.ofNat 1, .ofNat 1), []), ([fr], .inl (.ofNat 0, .ofNat 0), [])], [])
def cg_X9_hasReaper_0 : List (Nat × AK) := []
def ca_X9_hasReaper_0 : List (Nat × AA) := []
set_option maxRecDepth 100000 in
theorem cc_X9_hasReaper_0 : aChk QPl CF ck_X9_hasReaper_0 cg_X9_hasReaper_0 xxX9 mX9_hasReaper tX9_hasReaper ca_X9_hasReaper_0 [] 1 = true := by decide +kernel
theorem cx_X9_hasReaper_0 : ctsO QQ CF xxX9 cg_X9_hasReaper_0 := ctsO_nil
theorem ct_X9_hasReaper_0 : ctrO QQ CF ck_X9_hasReaper_0 mX9_hasReaper := chk_ok (Q := QQ) (QP := QPl) (C := CF) (c := ck_X9_hasReaper_0) (G := cg_X9_hasReaper_0) (X := xxX9) (M := mX9_hasReaper) (t := tX9_hasReaper) (anns := ca_X9_hasReaper_0) 1 xx9 pl9 rfl kX9_hasReaper qq_ok cx_X9_hasReaper_0 cc_X9_hasReaper_0
def ck_X9_hasBarn_0 : AK := (1, [.inr (.inl [12]), .inl fr], [], false, [([(.ofNat 0, .ofNat 3)], .inl (.ofNat 1, .ofNat 1), []), ([fr], .inl (.ofNat 0, .ofNat 0), [])], [])
def cg_X9_hasBarn_0 : List (Nat × AK) := []
def ca_X9_hasBarn_0 : List (Nat × AA) := []
set_option maxRecDepth 100000 in
theorem cc_X9_hasBarn_0 : aChk QPl CF ck_X9_hasBarn_0 cg_X9_hasBarn_0 xxX9 mX9_hasBarn tX9_hasBarn ca_X9_hasBarn_0 [] 1 = true := by decide +kernel
theorem cx_X9_hasBarn_0 : ctsO QQ CF xxX9 cg_X9_hasBarn_0 := ctsO_nil
theorem ct_X9_hasBarn_0 : ctrO QQ CF ck_X9_hasBarn_0 mX9_hasBarn := chk_ok (Q := QQ) (QP := QPl) (C := CF) (c := ck_X9_hasBarn_0) (G := cg_X9_hasBarn_0) (X := xxX9) (M := mX9_hasBarn) (t := tX9_hasBarn) (anns := ca_X9_hasBarn_0) 1 xx9 pl9 rfl kX9_hasBarn qq_ok cx_X9_hasBarn_0 cc_X9_hasBarn_0
def ck_X2_describeThing_0 : AK := (1, [.inr (.inl [23]), .inl fr, .inl fr, .inl fr], [24], false, [([fr, fr, fr], .inr (.inr 9), [])], [])
def cg_X2_describeThing_0 : List (Nat × AK) := []
def ca_X2_describeThing_0 : List (Nat × AA) := []
set_option maxRecDepth 100000 in
theorem cc_X2_describeThing_0 : aChk QPl CF ck_X2_describeThing_0 cg_X2_describeThing_0 xxX2 mX2_describeThing tX2_describeThing ca_X2_describeThing_0 [] 1 = true := by decide +kernel
theorem cx_X2_describeThing_0 : ctsO QQ CF xxX2 cg_X2_describeThing_0 := ctsO_nil
theorem ct_X2_describeThing_0 : ctrO QQ CF ck_X2_describeThing_0 mX2_describeThing := chk_ok (Q := QQ) (QP := QPl) (C := CF) (c := ck_X2_describeThing_0) (G := cg_X2_describeThing_0) (X := xxX2) (M := mX2_describeThing) (t := tX2_describeThing) (anns := ca_X2_describeThing_0) 1 xx2 pl2 rfl kX2_describeThing qq_ok cx_X2_describeThing_0 cc_X2_describeThing_0
def ck_X8_hasLaw_0 : AK := (1, [.inr (.inl [18, 47, 52, 57, 62]), .inl fr], [], false, [([(.ofNat 0, .ofNat 4)], .inl (.ofNat 1, .ofNat 1), []), ([fr], .inl (.ofNat 0, .ofNat 0), [])], [])
def cg_X8_hasLaw_0 : List (Nat × AK) := []
def ca_X8_hasLaw_0 : List (Nat × AA) := []
set_option maxRecDepth 100000 in
theorem cc_X8_hasLaw_0 : aChk QPl CF ck_X8_hasLaw_0 cg_X8_hasLaw_0 xxX8 mX8_hasLaw tX8_hasLaw ca_X8_hasLaw_0 [] 1 = true := by decide +kernel
theorem cx_X8_hasLaw_0 : ctsO QQ CF xxX8 cg_X8_hasLaw_0 := ctsO_nil
theorem ct_X8_hasLaw_0 : ctrO QQ CF ck_X8_hasLaw_0 mX8_hasLaw := chk_ok (Q := QQ) (QP := QPl) (C := CF) (c := ck_X8_hasLaw_0) (G := cg_X8_hasLaw_0) (X := xxX8) (M := mX8_hasLaw) (t := tX8_hasLaw) (anns := ca_X8_hasLaw_0) 1 xx8 pl8 rfl kX8_hasLaw qq_ok cx_X8_hasLaw_0 cc_X8_hasLaw_0
def ck_X2_run_0 : AK := (1, [.inr (.inl [23]), .inl fr, .inl fr], [], false, [([fr, fr], .inl (.ofNat 0, .ofNat 0), []), ([(.ofNat 0, .ofNat 4), fr], .inl fr, [])], [])
def cg_X2_run_0 : List (Nat × AK) := []
def ca_X2_run_0_24 : Nat × AA := (24, [(.ofNat 0, .ofNat 0), (.ofNat 0, .ofNat 4), fr, (.ofNat 0, .ofNat 64), fr], [.inr (.inl [23]), .inl (1, .ofNat 0), .inl (2, .ofNat 0), .inl (3, .ofNat 0), .inl (4, .ofNat 0), .inr (.inr 0), .inr (.inr 0), .inr (.inr 0), .inr (.inr 0), .inr (.inr 0), .inr (.inr 0), .inr (.inr 0), .inr (.inr 0)], [], [], [(0, 3, 0), (0, 4, 0)], (.ofNat 6442450943, [.ofNat 0, .ofNat 0, .ofNat 0, .ofNat 0, .negSucc 2]))
def ca_X2_run_0_303 : Nat × AA := (303, [(.ofNat 0, .ofNat 0), (.ofNat 0, .ofNat 4), fr, (.ofNat 0, .ofNat 64), (.ofNat 0, .ofNat 299), (.ofNat 8, .ofNat 8), (.negSucc 9998, .ofNat 9999)], [.inr (.inl [23]), .inl (1, .ofNat 0), .inl (2, .ofNat 0), .inl (3, .ofNat 0), .inl (4, .ofNat 0), .inl (5, .ofNat 0), .inl (6, .ofNat 0), .inr (.inr 1), .inr (.inr 0), .inr (.inr 1), .inr (.inr 0), .inr (.inr 0), .inr (.inr 0)], [], [], [(0, 3, 0), (0, 4, 0), (0, 5, 0), (0, 6, 0)], (.ofNat 6442450942, [.ofNat 0, .ofNat 0, .ofNat 0, .ofNat 0, .negSucc 2, .ofNat 0, .ofNat 0]))
def ca_X2_run_0_319 : Nat × AA := (319, [(.ofNat 0, .ofNat 0), (.ofNat 0, .ofNat 4), fr, (.ofNat 0, .ofNat 64), (.ofNat 0, .ofNat 299), (.ofNat 8, .ofNat 8), (.negSucc 9998, .ofNat 9999)], [.inr (.inl [23]), .inl (1, .ofNat 0), .inl (2, .ofNat 0), .inl (3, .ofNat 0), .inl (4, .ofNat 0), .inl (5, .ofNat 0), .inl (6, .ofNat 0), .inr (.inr 1), .inr (.inr 0), .inr (.inr 1), .inr (.inr 0), .inr (.inr 0), .inr (.inr 0)], [.inr (.inr 1)], [], [(0, 3, 0), (0, 4, 0), (0, 5, 0), (0, 6, 0)], (.ofNat 6442450941, [.ofNat 0, .ofNat 0, .ofNat 0, .ofNat 0, .negSucc 2, .ofNat 0, .ofNat 0]))
def ca_X2_run_0 : List (Nat × AA) := [ca_X2_run_0_24, ca_X2_run_0_303, ca_X2_run_0_319]
set_option maxRecDepth 100000 in
theorem cc_X2_run_0 : aChk QPl CF ck_X2_run_0 cg_X2_run_0 xxX2 mX2_run tX2_run ca_X2_run_0 [303] 12884901888 = true := by decide +kernel
theorem cx_X2_run_0 : ctsO QQ CF xxX2 cg_X2_run_0 := ctsO_nil
set_option maxRecDepth 100000 in
set_option maxHeartbeats 4000000 in
theorem seg_X2_run_0 : ∀ q, q ∈ ca_X2_run_0 → nmem q.1 [303] = true → ∀ (l : Launch) (d : Nat) (sh : List XO) (I : XI) (as : List Value) (Rp : XR), agO ck_X2_run_0.2.1 as → (∀ I2, frO ck_X2_run_0.2.2.1 I I2 → QQ I2) → outO QQ CF ck_X2_run_0.2.2.1 ck_X2_run_0.2.2.2.1 sh I ck_X2_run_0.2.2.2.2.1 as Rp → segO CF ck_X2_run_0.2.2.1 ck_X2_run_0.2.2.2.1 sh I xxX2 mX2_run.2.2.2 (!(Nat.beq 0 0)) sh.length 0 0 l (d + (ck_X2_run_0.1 - 1)) tX2_run (ca_X2_run_0.map fun q => q.1) Rp as ca_X2_run_0 (aInts ck_X2_run_0.2.1).length q := by
  intro q hq hz l d sh0 I0 as Rp ha _ _ K R lc st sh I J hK hg hp
  simp only [ca_X2_run_0, List.mem_cons, List.not_mem_nil, or_false] at hq
  rcases hq with rfl | rfl | rfl
  · exact absurd hz (by decide)
  · cases st with
    | cons _ _ => exact hg.2.1.2.elim
    | nil =>
      obtain ⟨o7, e7, y7, hy7⟩ := hg.2.1.1 7 (.inr (.inr 1)) rfl
      obtain ⟨o9, e9, y9, hy9⟩ := hg.2.1.1 9 (.inr (.inr 1)) rfl
      obtain ⟨ol, el, _⟩ := hg.2.1.1 12 (.inr (.inr 0)) rfl
      have hk : kkA CF ((aInts ck_X2_run_0.2.1).length + 1) ca_X2_run_0 (some ca_X2_run_0_303.2.2.2.2.2.2) 319 (aPu (stA ca_X2_run_0_303.2) [] (.inr (.inr 1))) = true := by decide +kernel
      have go : ∀ (v : Int64), K 319 lc [.long v] sh I J 0 0 := fun v => hK 319 _ hk R lc [.long v] sh I J (ga_pu hg trivial ⟨v, rfl⟩)
      obtain ⟨a0, a1, a2, a3, a4, a5, a6, a7, a8, a9, a10, a11, a12, r, rfl⟩ := ex13 el
      cases e7
      subst hy7
      cases e9
      subst hy9
      refine And.intro (fun h => ?_) (fun h => ?_)
      · exact And.intro (fun z => h (by rw [z]; decide)) (go _)
      · exact go _
  · exact absurd hz (by decide)
theorem ct_X2_run_0 : ctrO QQ CF ck_X2_run_0 mX2_run := chk_okS (Q := QQ) (QP := QPl) (C := CF) (c := ck_X2_run_0) (G := cg_X2_run_0) (X := xxX2) (M := mX2_run) (t := tX2_run) (anns := ca_X2_run_0) [303] 12884901888 xx2 pl2 rfl kX2_run qq_ok cx_X2_run_0 seg_X2_run_0 cc_X2_run_0
def ck_X2_shadow_0 : AK := (2, [.inr (.inl [23]), .inl fr, .inl fr, .inl fr, .inl fr, .inl fr], [24], false, [([fr, fr, fr, fr, fr], .inl (.ofNat 0, .ofNat 0), []), ([fr, fr, fr, fr, fr], .inl fr, [])], [])
def cg_X2_shadow_0 : List (Nat × AK) := [(38, ck_X2_describeThing_0), (42, ck_X8_hasLaw_0), (54, ck_X2_run_0)]
def ca_X2_shadow_0 : List (Nat × AA) := []
set_option maxRecDepth 100000 in
theorem cc_X2_shadow_0 : aChk QPl CF ck_X2_shadow_0 cg_X2_shadow_0 xxX2 mX2_shadow tX2_shadow ca_X2_shadow_0 [] 1 = true := by decide +kernel
theorem cx_X2_shadow_0 : ctsO QQ CF xxX2 cg_X2_shadow_0 := ctsO_cons rfl ct_X2_describeThing_0 (ctsO_cons rfl ct_X8_hasLaw_0 (ctsO_cons rfl ct_X2_run_0 (ctsO_nil)))
theorem ct_X2_shadow_0 : ctrO QQ CF ck_X2_shadow_0 mX2_shadow := chk_ok (Q := QQ) (QP := QPl) (C := CF) (c := ck_X2_shadow_0) (G := cg_X2_shadow_0) (X := xxX2) (M := mX2_shadow) (t := tX2_shadow) (anns := ca_X2_shadow_0) 1 xx2 pl2 rfl kX2_shadow qq_ok cx_X2_shadow_0 cc_X2_shadow_0
def ck_X2_allows_0 : AK := (2, [.inr (.inl [23]), .inl fr, .inl fr, .inl fr, .inl fr, .inl fr], [24], false, [([fr, fr, fr, fr, fr], .inl (.ofNat 0, .ofNat 0), []), ([fr, fr, fr, fr, fr], .inl (.ofNat 1, .ofNat 1), [])], [])
def cg_X2_allows_0 : List (Nat × AK) := [(42, ck_X8_hasLaw_0), (38, ck_X2_describeThing_0), (54, ck_X2_run_0)]
def ca_X2_allows_0 : List (Nat × AA) := []
set_option maxRecDepth 100000 in
theorem cc_X2_allows_0 : aChk QPl CF ck_X2_allows_0 cg_X2_allows_0 xxX2 mX2_allows tX2_allows ca_X2_allows_0 [] 1 = true := by decide +kernel
theorem cx_X2_allows_0 : ctsO QQ CF xxX2 cg_X2_allows_0 := ctsO_cons rfl ct_X8_hasLaw_0 (ctsO_cons rfl ct_X2_describeThing_0 (ctsO_cons rfl ct_X2_run_0 (ctsO_nil)))
theorem ct_X2_allows_0 : ctrO QQ CF ck_X2_allows_0 mX2_allows := chk_ok (Q := QQ) (QP := QPl) (C := CF) (c := ck_X2_allows_0) (G := cg_X2_allows_0) (X := xxX2) (M := mX2_allows) (t := tX2_allows) (anns := ca_X2_allows_0) 1 xx2 pl2 rfl kX2_allows qq_ok cx_X2_allows_0 cc_X2_allows_0
def ck_X10_shadowOf_0 : AK := (3, [.inr (.inl [26]), .inl fr], [24], false, [([fr], .inl (.ofNat 0, .ofNat 0), []), ([(.ofNat 0, .ofNat 7)], .inl fr, [])], [])
def cg_X10_shadowOf_0 : List (Nat × AK) := [(46, ck_X9_hasThing_0), (49, ck_X2_shadow_0)]
def ca_X10_shadowOf_0 : List (Nat × AA) := []
set_option maxRecDepth 100000 in
theorem cc_X10_shadowOf_0 : aChk QPl CF ck_X10_shadowOf_0 cg_X10_shadowOf_0 xxX10 mX10_shadowOf tX10_shadowOf ca_X10_shadowOf_0 [] 1 = true := by decide +kernel
theorem cx_X10_shadowOf_0 : ctsO QQ CF xxX10 cg_X10_shadowOf_0 := ctsO_cons rfl ct_X9_hasThing_0 (ctsO_cons rfl ct_X2_shadow_0 (ctsO_nil))
theorem ct_X10_shadowOf_0 : ctrO QQ CF ck_X10_shadowOf_0 mX10_shadowOf := chk_ok (Q := QQ) (QP := QPl) (C := CF) (c := ck_X10_shadowOf_0) (G := cg_X10_shadowOf_0) (X := xxX10) (M := mX10_shadowOf) (t := tX10_shadowOf) (anns := ca_X10_shadowOf_0) 1 xx10 pl10 rfl kX10_shadowOf qq_ok cx_X10_shadowOf_0 cc_X10_shadowOf_0
def ck_X10_hasBale_0 : AK := (1, [.inr (.inl [26]), .inl fr], [], false, [([(.ofNat 0, .ofNat 11)], .inl (.ofNat 1, .ofNat 1), []), ([fr], .inl (.ofNat 0, .ofNat 0), [])], [])
def cg_X10_hasBale_0 : List (Nat × AK) := []
def ca_X10_hasBale_0 : List (Nat × AA) := []
set_option maxRecDepth 100000 in
theorem cc_X10_hasBale_0 : aChk QPl CF ck_X10_hasBale_0 cg_X10_hasBale_0 xxX10 mX10_hasBale tX10_hasBale ca_X10_hasBale_0 [] 1 = true := by decide +kernel
theorem cx_X10_hasBale_0 : ctsO QQ CF xxX10 cg_X10_hasBale_0 := ctsO_nil
theorem ct_X10_hasBale_0 : ctrO QQ CF ck_X10_hasBale_0 mX10_hasBale := chk_ok (Q := QQ) (QP := QPl) (C := CF) (c := ck_X10_hasBale_0) (G := cg_X10_hasBale_0) (X := xxX10) (M := mX10_hasBale) (t := tX10_hasBale) (anns := ca_X10_hasBale_0) 1 xx10 pl10 rfl kX10_hasBale qq_ok cx_X10_hasBale_0 cc_X10_hasBale_0
def ck_X2_describe_0 : AK := (1, [.inr (.inl [23]), .inl fr, .inl fr, .inl fr, .inl fr], [24], false, [([fr, fr, fr, fr], .inr (.inr 9), [])], [])
def cg_X2_describe_0 : List (Nat × AK) := []
def ca_X2_describe_0 : List (Nat × AA) := []
set_option maxRecDepth 100000 in
theorem cc_X2_describe_0 : aChk QPl CF ck_X2_describe_0 cg_X2_describe_0 xxX2 mX2_describe tX2_describe ca_X2_describe_0 [] 1 = true := by decide +kernel
theorem cx_X2_describe_0 : ctsO QQ CF xxX2 cg_X2_describe_0 := ctsO_nil
theorem ct_X2_describe_0 : ctrO QQ CF ck_X2_describe_0 mX2_describe := chk_ok (Q := QQ) (QP := QPl) (C := CF) (c := ck_X2_describe_0) (G := cg_X2_describe_0) (X := xxX2) (M := mX2_describe) (t := tX2_describe) (anns := ca_X2_describe_0) 1 xx2 pl2 rfl kX2_describe qq_ok cx_X2_describe_0 cc_X2_describe_0
def ck_X2_price_0 : AK := (2, [.inr (.inl [23]), .inl fr, .inl fr], [24], false, [([fr, fr], .inl (.ofNat 0, .ofNat 0), []), ([fr, fr], .inl fr, [])], [])
def cg_X2_price_0 : List (Nat × AK) := [(42, ck_X8_hasLaw_0), (54, ck_X2_run_0)]
def ca_X2_price_0 : List (Nat × AA) := []
set_option maxRecDepth 100000 in
theorem cc_X2_price_0 : aChk QPl CF ck_X2_price_0 cg_X2_price_0 xxX2 mX2_price tX2_price ca_X2_price_0 [] 1 = true := by decide +kernel
theorem cx_X2_price_0 : ctsO QQ CF xxX2 cg_X2_price_0 := ctsO_cons rfl ct_X8_hasLaw_0 (ctsO_cons rfl ct_X2_run_0 (ctsO_nil))
theorem ct_X2_price_0 : ctrO QQ CF ck_X2_price_0 mX2_price := chk_ok (Q := QQ) (QP := QPl) (C := CF) (c := ck_X2_price_0) (G := cg_X2_price_0) (X := xxX2) (M := mX2_price) (t := tX2_price) (anns := ca_X2_price_0) 1 xx2 pl2 rfl kX2_price qq_ok cx_X2_price_0 cc_X2_price_0
def ck_X11_within_4 : AK := (1, [.inl fr, .inl (.ofNat 1, .ofNat 1), .inl (.ofNat 60, .ofNat 60)], [], false, [([(.ofNat 1, .ofNat 60), (.ofNat 1, .ofNat 1), (.ofNat 60, .ofNat 60)], .inl (.ofNat 1, .ofNat 1), []), ([fr, (.ofNat 1, .ofNat 1), (.ofNat 60, .ofNat 60)], .inl (.ofNat 0, .ofNat 0), [])], [])
def cg_X11_within_4 : List (Nat × AK) := []
def ca_X11_within_4 : List (Nat × AA) := []
set_option maxRecDepth 100000 in
theorem cc_X11_within_4 : aChk QPl CF ck_X11_within_4 cg_X11_within_4 xxX11 mX11_within tX11_within ca_X11_within_4 [] 1 = true := by decide +kernel
theorem cx_X11_within_4 : ctsO QQ CF xxX11 cg_X11_within_4 := ctsO_nil
theorem ct_X11_within_4 : ctrO QQ CF ck_X11_within_4 mX11_within := chk_ok (Q := QQ) (QP := QPl) (C := CF) (c := ck_X11_within_4) (G := cg_X11_within_4) (X := xxX11) (M := mX11_within) (t := tX11_within) (anns := ca_X11_within_4) 1 xx11 pl11 rfl kX11_within qq_ok cx_X11_within_4 cc_X11_within_4
def ck_X2_growth_0 : AK := (2, [.inr (.inl [23]), .inl fr, .inl fr, .inl fr, .inl fr], [24], false, [([fr, fr, fr, fr], .inl (.ofNat 0, .ofNat 10), []), ([fr, fr, fr, fr], .inl fr, [])], [])
def cg_X2_growth_0 : List (Nat × AK) := [(42, ck_X8_hasLaw_0), (38, ck_X2_describeThing_0), (54, ck_X2_run_0)]
def ca_X2_growth_0 : List (Nat × AA) := []
set_option maxRecDepth 100000 in
theorem cc_X2_growth_0 : aChk QPl CF ck_X2_growth_0 cg_X2_growth_0 xxX2 mX2_growth tX2_growth ca_X2_growth_0 [] 1 = true := by decide +kernel
theorem cx_X2_growth_0 : ctsO QQ CF xxX2 cg_X2_growth_0 := ctsO_cons rfl ct_X8_hasLaw_0 (ctsO_cons rfl ct_X2_describeThing_0 (ctsO_cons rfl ct_X2_run_0 (ctsO_nil)))
theorem ct_X2_growth_0 : ctrO QQ CF ck_X2_growth_0 mX2_growth := chk_ok (Q := QQ) (QP := QPl) (C := CF) (c := ck_X2_growth_0) (G := cg_X2_growth_0) (X := xxX2) (M := mX2_growth) (t := tX2_growth) (anns := ca_X2_growth_0) 1 xx2 pl2 rfl kX2_growth qq_ok cx_X2_growth_0 cc_X2_growth_0
def ck_X2_spoiling_0 : AK := (2, [.inr (.inl [23]), .inl fr], [24], false, [([fr], .inl (.ofNat 0, .ofNat 1), []), ([fr], .inl fr, [])], [])
def cg_X2_spoiling_0 : List (Nat × AK) := [(42, ck_X8_hasLaw_0), (54, ck_X2_run_0)]
def ca_X2_spoiling_0 : List (Nat × AA) := []
set_option maxRecDepth 100000 in
theorem cc_X2_spoiling_0 : aChk QPl CF ck_X2_spoiling_0 cg_X2_spoiling_0 xxX2 mX2_spoiling tX2_spoiling ca_X2_spoiling_0 [] 1 = true := by decide +kernel
theorem cx_X2_spoiling_0 : ctsO QQ CF xxX2 cg_X2_spoiling_0 := ctsO_cons rfl ct_X8_hasLaw_0 (ctsO_cons rfl ct_X2_run_0 (ctsO_nil))
theorem ct_X2_spoiling_0 : ctrO QQ CF ck_X2_spoiling_0 mX2_spoiling := chk_ok (Q := QQ) (QP := QPl) (C := CF) (c := ck_X2_spoiling_0) (G := cg_X2_spoiling_0) (X := xxX2) (M := mX2_spoiling) (t := tX2_spoiling) (anns := ca_X2_spoiling_0) 1 xx2 pl2 rfl kX2_spoiling qq_ok cx_X2_spoiling_0 cc_X2_spoiling_0
def ck_X11_within_5 : AK := (1, [.inl fr, .inl (.ofNat 0, .ofNat 0), .inl (.ofNat 9999, .ofNat 9999)], [], false, [([(.ofNat 0, .ofNat 9999), (.ofNat 0, .ofNat 0), (.ofNat 9999, .ofNat 9999)], .inl (.ofNat 1, .ofNat 1), []), ([fr, (.ofNat 0, .ofNat 0), (.ofNat 9999, .ofNat 9999)], .inl (.ofNat 0, .ofNat 0), [])], [])
def cg_X11_within_5 : List (Nat × AK) := []
def ca_X11_within_5 : List (Nat × AA) := []
set_option maxRecDepth 100000 in
theorem cc_X11_within_5 : aChk QPl CF ck_X11_within_5 cg_X11_within_5 xxX11 mX11_within tX11_within ca_X11_within_5 [] 1 = true := by decide +kernel
theorem cx_X11_within_5 : ctsO QQ CF xxX11 cg_X11_within_5 := ctsO_nil
theorem ct_X11_within_5 : ctrO QQ CF ck_X11_within_5 mX11_within := chk_ok (Q := QQ) (QP := QPl) (C := CF) (c := ck_X11_within_5) (G := cg_X11_within_5) (X := xxX11) (M := mX11_within) (t := tX11_within) (anns := ca_X11_within_5) 1 xx11 pl11 rfl kX11_within qq_ok cx_X11_within_5 cc_X11_within_5
def ck_X10_takeFrom_0 : AK := (1, [.inr (.inl [28]), .inr (.inl [27])], [29], false, [([], .inr (.inr 9), [])], [])
def cg_X10_takeFrom_0 : List (Nat × AK) := []
def ca_X10_takeFrom_0 : List (Nat × AA) := []
set_option maxRecDepth 100000 in
theorem cc_X10_takeFrom_0 : aChk QPl CF ck_X10_takeFrom_0 cg_X10_takeFrom_0 xxX10 mX10_takeFrom tX10_takeFrom ca_X10_takeFrom_0 [] 1 = true := by decide +kernel
theorem cx_X10_takeFrom_0 : ctsO QQ CF xxX10 cg_X10_takeFrom_0 := ctsO_nil
theorem ct_X10_takeFrom_0 : ctrO QQ CF ck_X10_takeFrom_0 mX10_takeFrom := chk_ok (Q := QQ) (QP := QPl) (C := CF) (c := ck_X10_takeFrom_0) (G := cg_X10_takeFrom_0) (X := xxX10) (M := mX10_takeFrom) (t := tX10_takeFrom) (anns := ca_X10_takeFrom_0) 1 xx10 pl10 rfl kX10_takeFrom qq_ok cx_X10_takeFrom_0 cc_X10_takeFrom_0
def ck_X10_hoursLeft_1 : AK := (1, [.inr (.inl [28])], [], false, [([], .inl fr, [])], [])
def cg_X10_hoursLeft_1 : List (Nat × AK) := []
def ca_X10_hoursLeft_1 : List (Nat × AA) := []
set_option maxRecDepth 100000 in
theorem cc_X10_hoursLeft_1 : aChk QPl CF ck_X10_hoursLeft_1 cg_X10_hoursLeft_1 xxX10 mX10_hoursLeft tX10_hoursLeft ca_X10_hoursLeft_1 [] 1 = true := by decide +kernel
theorem cx_X10_hoursLeft_1 : ctsO QQ CF xxX10 cg_X10_hoursLeft_1 := ctsO_nil
theorem ct_X10_hoursLeft_1 : ctrO QQ CF ck_X10_hoursLeft_1 mX10_hoursLeft := chk_ok (Q := QQ) (QP := QPl) (C := CF) (c := ck_X10_hoursLeft_1) (G := cg_X10_hoursLeft_1) (X := xxX10) (M := mX10_hoursLeft) (t := tX10_hoursLeft) (anns := ca_X10_hoursLeft_1) 1 xx10 pl10 rfl kX10_hoursLeft qq_ok cx_X10_hoursLeft_1 cc_X10_hoursLeft_1
def ck_X10_draw_1 : AK := (1, [.inr (.inl [28]), .inl fr], [29], false, [([(.ofNat 1, .ofNat 2147483647)], .inl (.negSucc 2147483645, .ofNat 2147483646), []), ([(.negSucc 2147483647, .ofNat 0)], .inl (.ofNat 0, .ofNat 0), [])], [])
def cg_X10_draw_1 : List (Nat × AK) := []
def ca_X10_draw_1 : List (Nat × AA) := []
set_option maxRecDepth 100000 in
theorem cc_X10_draw_1 : aChk QPl CF ck_X10_draw_1 cg_X10_draw_1 xxX10 mX10_draw tX10_draw ca_X10_draw_1 [] 1 = true := by decide +kernel
theorem cx_X10_draw_1 : ctsO QQ CF xxX10 cg_X10_draw_1 := ctsO_nil
theorem ct_X10_draw_1 : ctrO QQ CF ck_X10_draw_1 mX10_draw := chk_ok (Q := QQ) (QP := QPl) (C := CF) (c := ck_X10_draw_1) (G := cg_X10_draw_1) (X := xxX10) (M := mX10_draw) (t := tX10_draw) (anns := ca_X10_draw_1) 1 xx10 pl10 rfl kX10_draw qq_ok cx_X10_draw_1 cc_X10_draw_1
def ck_X10_growsOf_1 : AK := (3, [.inr (.inl [28]), .inl fr], [24], false, [([fr], .inl (.ofNat 0, .ofNat 10), []), ([(.ofNat 0, .ofNat 7)], .inl fr, [])], [])
def cg_X10_growsOf_1 : List (Nat × AK) := [(46, ck_X9_hasThing_0), (55, ck_X2_growth_0)]
def ca_X10_growsOf_1 : List (Nat × AA) := []
set_option maxRecDepth 100000 in
theorem cc_X10_growsOf_1 : aChk QPl CF ck_X10_growsOf_1 cg_X10_growsOf_1 xxX10 mX10_growsOf tX10_growsOf ca_X10_growsOf_1 [] 1 = true := by decide +kernel
theorem cx_X10_growsOf_1 : ctsO QQ CF xxX10 cg_X10_growsOf_1 := ctsO_cons rfl ct_X9_hasThing_0 (ctsO_cons rfl ct_X2_growth_0 (ctsO_nil))
theorem ct_X10_growsOf_1 : ctrO QQ CF ck_X10_growsOf_1 mX10_growsOf := chk_ok (Q := QQ) (QP := QPl) (C := CF) (c := ck_X10_growsOf_1) (G := cg_X10_growsOf_1) (X := xxX10) (M := mX10_growsOf) (t := tX10_growsOf) (anns := ca_X10_growsOf_1) 1 xx10 pl10 rfl kX10_growsOf qq_ok cx_X10_growsOf_1 cc_X10_growsOf_1
def ck_X10_hasBale_1 : AK := (1, [.inr (.inl [28]), .inl fr], [], false, [([(.ofNat 0, .ofNat 11)], .inl (.ofNat 1, .ofNat 1), []), ([fr], .inl (.ofNat 0, .ofNat 0), [])], [])
def cg_X10_hasBale_1 : List (Nat × AK) := []
def ca_X10_hasBale_1 : List (Nat × AA) := []
set_option maxRecDepth 100000 in
theorem cc_X10_hasBale_1 : aChk QPl CF ck_X10_hasBale_1 cg_X10_hasBale_1 xxX10 mX10_hasBale tX10_hasBale ca_X10_hasBale_1 [] 1 = true := by decide +kernel
theorem cx_X10_hasBale_1 : ctsO QQ CF xxX10 cg_X10_hasBale_1 := ctsO_nil
theorem ct_X10_hasBale_1 : ctrO QQ CF ck_X10_hasBale_1 mX10_hasBale := chk_ok (Q := QQ) (QP := QPl) (C := CF) (c := ck_X10_hasBale_1) (G := cg_X10_hasBale_1) (X := xxX10) (M := mX10_hasBale) (t := tX10_hasBale) (anns := ca_X10_hasBale_1) 1 xx10 pl10 rfl kX10_hasBale qq_ok cx_X10_hasBale_1 cc_X10_hasBale_1
def ck_X10_balesIn_1 : AK := (1, [.inr (.inl [28]), .inl fr], [], false, [([fr], .inl fr, [])], [])
def cg_X10_balesIn_1 : List (Nat × AK) := []
def ca_X10_balesIn_1 : List (Nat × AA) := [(4, [(.ofNat 0, .ofNat 0), fr, fr, (.ofNat 0, .ofNat 12)], [.inr (.inl [28]), .inl (1, .ofNat 0), .inl (2, .ofNat 0), .inl (3, .ofNat 0)], [], [], [(0, 2, 0), (0, 3, 0)], (.ofNat 12, [.ofNat 0, .ofNat 0, .ofNat 0, .negSucc 0]))]
set_option maxRecDepth 100000 in
theorem cc_X10_balesIn_1 : aChk QPl CF ck_X10_balesIn_1 cg_X10_balesIn_1 xxX10 mX10_balesIn tX10_balesIn ca_X10_balesIn_1 [] 13 = true := by decide +kernel
theorem cx_X10_balesIn_1 : ctsO QQ CF xxX10 cg_X10_balesIn_1 := ctsO_nil
theorem ct_X10_balesIn_1 : ctrO QQ CF ck_X10_balesIn_1 mX10_balesIn := chk_ok (Q := QQ) (QP := QPl) (C := CF) (c := ck_X10_balesIn_1) (G := cg_X10_balesIn_1) (X := xxX10) (M := mX10_balesIn) (t := tX10_balesIn) (anns := ca_X10_balesIn_1) 13 xx10 pl10 rfl kX10_balesIn qq_ok cx_X10_balesIn_1 cc_X10_balesIn_1
def ck_X10_spoilsOf_1 : AK := (3, [.inr (.inl [28]), .inl fr], [24], false, [([fr], .inl (.ofNat 0, .ofNat 1), []), ([(.ofNat 0, .ofNat 11)], .inl fr, [])], [])
def cg_X10_spoilsOf_1 : List (Nat × AK) := [(63, ck_X10_hasBale_1), (66, ck_X10_balesIn_1), (69, ck_X2_describe_0), (73, ck_X2_spoiling_0)]
def ca_X10_spoilsOf_1 : List (Nat × AA) := []
set_option maxRecDepth 100000 in
theorem cc_X10_spoilsOf_1 : aChk QPl CF ck_X10_spoilsOf_1 cg_X10_spoilsOf_1 xxX10 mX10_spoilsOf tX10_spoilsOf ca_X10_spoilsOf_1 [] 1 = true := by decide +kernel
theorem cx_X10_spoilsOf_1 : ctsO QQ CF xxX10 cg_X10_spoilsOf_1 := ctsO_cons rfl ct_X10_hasBale_1 (ctsO_cons rfl ct_X10_balesIn_1 (ctsO_cons rfl ct_X2_describe_0 (ctsO_cons rfl ct_X2_spoiling_0 (ctsO_nil))))
theorem ct_X10_spoilsOf_1 : ctrO QQ CF ck_X10_spoilsOf_1 mX10_spoilsOf := chk_ok (Q := QQ) (QP := QPl) (C := CF) (c := ck_X10_spoilsOf_1) (G := cg_X10_spoilsOf_1) (X := xxX10) (M := mX10_spoilsOf) (t := tX10_spoilsOf) (anns := ca_X10_spoilsOf_1) 1 xx10 pl10 rfl kX10_spoilsOf qq_ok cx_X10_spoilsOf_1 cc_X10_spoilsOf_1
def ck_X10_shorten_1 : AK := (2, [.inr (.inl [28]), .inl fr, .inl fr], [29], false, [([fr, fr], .inr (.inr 9), [])], [])
def cg_X10_shorten_1 : List (Nat × AK) := [(63, ck_X10_hasBale_1)]
def ca_X10_shorten_1 : List (Nat × AA) := []
set_option maxRecDepth 100000 in
theorem cc_X10_shorten_1 : aChk QPl CF ck_X10_shorten_1 cg_X10_shorten_1 xxX10 mX10_shorten tX10_shorten ca_X10_shorten_1 [] 1 = true := by decide +kernel
theorem cx_X10_shorten_1 : ctsO QQ CF xxX10 cg_X10_shorten_1 := ctsO_cons rfl ct_X10_hasBale_1 (ctsO_nil)
theorem ct_X10_shorten_1 : ctrO QQ CF ck_X10_shorten_1 mX10_shorten := chk_ok (Q := QQ) (QP := QPl) (C := CF) (c := ck_X10_shorten_1) (G := cg_X10_shorten_1) (X := xxX10) (M := mX10_shorten) (t := tX10_shorten) (anns := ca_X10_shorten_1) 1 xx10 pl10 rfl kX10_shorten qq_ok cx_X10_shorten_1 cc_X10_shorten_1
def ck_X10_passHour_1 : AK := (4, [.inr (.inl [28])], [24, 29], false, [([], .inl (.ofNat 0, .ofNat 0), []), ([], .inl (.ofNat 1, .ofNat 1), [])], [])
def cg_X10_passHour_1 : List (Nat × AK) := [(125, ck_X10_hoursLeft_1), (128, ck_X10_draw_1), (135, ck_X10_growsOf_1), (138, ck_X10_spoilsOf_1), (118, ck_X10_shorten_1)]
def ca_X10_passHour_1 : List (Nat × AA) := [(11, [(.ofNat 0, .ofNat 0), (.ofNat 0, .ofNat 4)], [.inr (.inl [28]), .inl (1, .ofNat 0)], [], [], [(0, 1, 0)], (.ofNat 26, [.ofNat 0, .negSucc 0])), (91, [(.ofNat 0, .ofNat 0), (.ofNat 0, .ofNat 8), (.negSucc 2147483645, .ofNat 2147483646)], [.inr (.inl [28]), .inl (1, .ofNat 0)], [], [(29, 66, 2, .ofNat 0)], [(0, 1, 0), (2, 29, 66)], (.ofNat 21, [.ofNat 0, .negSucc 0, .ofNat 0])), (155, [(.ofNat 0, .ofNat 0), (.ofNat 0, .ofNat 12), (.ofNat 0, .ofNat 8)], [.inr (.inl [28]), .inl (1, .ofNat 0)], [], [(12, 5, 2, .ofNat 0)], [(0, 1, 0), (2, 12, 5)], (.ofNat 12, [.ofNat 0, .negSucc 0, .ofNat 0]))]
set_option maxRecDepth 100000 in
theorem cc_X10_passHour_1 : aChk QPl CF ck_X10_passHour_1 cg_X10_passHour_1 xxX10 mX10_passHour tX10_passHour ca_X10_passHour_1 [] 27 = true := by decide +kernel
theorem cx_X10_passHour_1 : ctsO QQ CF xxX10 cg_X10_passHour_1 := ctsO_cons rfl ct_X10_hoursLeft_1 (ctsO_cons rfl ct_X10_draw_1 (ctsO_cons rfl ct_X10_growsOf_1 (ctsO_cons rfl ct_X10_spoilsOf_1 (ctsO_cons rfl ct_X10_shorten_1 (ctsO_nil)))))
theorem ct_X10_passHour_1 : ctrO QQ CF ck_X10_passHour_1 mX10_passHour := chk_ok (Q := QQ) (QP := QPl) (C := CF) (c := ck_X10_passHour_1) (G := cg_X10_passHour_1) (X := xxX10) (M := mX10_passHour) (t := tX10_passHour) (anns := ca_X10_passHour_1) 27 xx10 pl10 rfl kX10_passHour qq_ok cx_X10_passHour_1 cc_X10_passHour_1
def ck_X11_foresee_0 : AK := (5, [.inr (.inl [0]), .inl fr], [24, 29], false, [([fr], .inr (.inr 9), [])], [])
def cg_X11_foresee_0 : List (Nat × AK) := [(304, ck_X10_takeFrom_0), (176, ck_X10_passHour_1)]
def ca_X11_foresee_0 : List (Nat × AA) := [(16, [(.ofNat 0, .ofNat 0), fr, (.ofNat 0, .ofNat 2147483647)], [.inr (.inl [0]), .inl (1, .ofNat 0), .inl (2, .ofNat 0)], [], [], [(0, 2, 0)], (.ofNat 2147483647, [.ofNat 0, .ofNat 0, .negSucc 0]))]
set_option maxRecDepth 100000 in
theorem cc_X11_foresee_0 : aChk QPl CF ck_X11_foresee_0 cg_X11_foresee_0 xxX11 mX11_foresee tX11_foresee ca_X11_foresee_0 [] 2147483648 = true := by decide +kernel
theorem cx_X11_foresee_0 : ctsO QQ CF xxX11 cg_X11_foresee_0 := ctsO_cons rfl ct_X10_takeFrom_0 (ctsO_cons rfl ct_X10_passHour_1 (ctsO_nil))
theorem ct_X11_foresee_0 : ctrO QQ CF ck_X11_foresee_0 mX11_foresee := chk_ok (Q := QQ) (QP := QPl) (C := CF) (c := ck_X11_foresee_0) (G := cg_X11_foresee_0) (X := xxX11) (M := mX11_foresee) (t := tX11_foresee) (anns := ca_X11_foresee_0) 2147483648 xx11 pl11 rfl kX11_foresee qq_ok cx_X11_foresee_0 cc_X11_foresee_0
def ck_X11_foretold_0 : AK := (6, [.inr (.inl [0]), .inl fr, .inl fr], [24, 29], false, [([(.ofNat 1, .ofNat 60), (.ofNat 0, .ofNat 7)], .inl fr, []), ([fr, fr], .inl (.negSucc 0, .negSucc 0), [])], [])
def cg_X11_foretold_0 : List (Nat × AK) := [(120, ck_X11_within_4), (265, ck_X9_hasThing_0), (307, ck_X11_foresee_0)]
def ca_X11_foretold_0 : List (Nat × AA) := []
set_option maxRecDepth 100000 in
theorem cc_X11_foretold_0 : aChk QPl CF ck_X11_foretold_0 cg_X11_foretold_0 xxX11 mX11_foretold tX11_foretold ca_X11_foretold_0 [] 1 = true := by decide +kernel
theorem cx_X11_foretold_0 : ctsO QQ CF xxX11 cg_X11_foretold_0 := ctsO_cons rfl ct_X11_within_4 (ctsO_cons rfl ct_X9_hasThing_0 (ctsO_cons rfl ct_X11_foresee_0 (ctsO_nil)))
theorem ct_X11_foretold_0 : ctrO QQ CF ck_X11_foretold_0 mX11_foretold := chk_ok (Q := QQ) (QP := QPl) (C := CF) (c := ck_X11_foretold_0) (G := cg_X11_foretold_0) (X := xxX11) (M := mX11_foretold) (t := tX11_foretold) (anns := ca_X11_foretold_0) 1 xx11 pl11 rfl kX11_foretold qq_ok cx_X11_foretold_0 cc_X11_foretold_0
def ck_X10_feetIn_1 : AK := (1, [.inr (.inl [28]), .inl fr], [], false, [([fr], .inl fr, [])], [])
def cg_X10_feetIn_1 : List (Nat × AK) := []
def ca_X10_feetIn_1 : List (Nat × AA) := [(4, [(.ofNat 0, .ofNat 0), fr, fr, (.ofNat 0, .ofNat 12)], [.inr (.inl [28]), .inl (1, .ofNat 0), .inl (2, .ofNat 0), .inl (3, .ofNat 0)], [], [], [(0, 2, 0), (0, 3, 0)], (.ofNat 12, [.ofNat 0, .ofNat 0, .ofNat 0, .negSucc 0]))]
set_option maxRecDepth 100000 in
theorem cc_X10_feetIn_1 : aChk QPl CF ck_X10_feetIn_1 cg_X10_feetIn_1 xxX10 mX10_feetIn tX10_feetIn ca_X10_feetIn_1 [] 13 = true := by decide +kernel
theorem cx_X10_feetIn_1 : ctsO QQ CF xxX10 cg_X10_feetIn_1 := ctsO_nil
theorem ct_X10_feetIn_1 : ctrO QQ CF ck_X10_feetIn_1 mX10_feetIn := chk_ok (Q := QQ) (QP := QPl) (C := CF) (c := ck_X10_feetIn_1) (G := cg_X10_feetIn_1) (X := xxX10) (M := mX10_feetIn) (t := tX10_feetIn) (anns := ca_X10_feetIn_1) 13 xx10 pl10 rfl kX10_feetIn qq_ok cx_X10_feetIn_1 cc_X10_feetIn_1
def ck_X11_stored_0 : AK := (6, [.inr (.inl [0]), .inl fr, .inl fr], [24, 29], false, [([(.ofNat 1, .ofNat 60), (.ofNat 0, .ofNat 3)], .inl fr, []), ([fr, fr], .inl (.negSucc 0, .negSucc 0), [])], [])
def cg_X11_stored_0 : List (Nat × AK) := [(120, ck_X11_within_4), (152, ck_X9_hasBarn_0), (307, ck_X11_foresee_0), (160, ck_X10_feetIn_1)]
def ca_X11_stored_0 : List (Nat × AA) := []
set_option maxRecDepth 100000 in
theorem cc_X11_stored_0 : aChk QPl CF ck_X11_stored_0 cg_X11_stored_0 xxX11 mX11_stored tX11_stored ca_X11_stored_0 [] 1 = true := by decide +kernel
theorem cx_X11_stored_0 : ctsO QQ CF xxX11 cg_X11_stored_0 := ctsO_cons rfl ct_X11_within_4 (ctsO_cons rfl ct_X9_hasBarn_0 (ctsO_cons rfl ct_X11_foresee_0 (ctsO_cons rfl ct_X10_feetIn_1 (ctsO_nil))))
theorem ct_X11_stored_0 : ctrO QQ CF ck_X11_stored_0 mX11_stored := chk_ok (Q := QQ) (QP := QPl) (C := CF) (c := ck_X11_stored_0) (G := cg_X11_stored_0) (X := xxX11) (M := mX11_stored) (t := tX11_stored) (anns := ca_X11_stored_0) 1 xx11 pl11 rfl kX11_stored qq_ok cx_X11_stored_0 cc_X11_stored_0
def ck_X11_within_10 : AK := (1, [.inl fr, .inl (.ofNat 1, .ofNat 1), .inl (.ofNat 4, .ofNat 4)], [], false, [([(.ofNat 1, .ofNat 4), (.ofNat 1, .ofNat 1), (.ofNat 4, .ofNat 4)], .inl (.ofNat 1, .ofNat 1), []), ([fr, (.ofNat 1, .ofNat 1), (.ofNat 4, .ofNat 4)], .inl (.ofNat 0, .ofNat 0), [])], [])
def cg_X11_within_10 : List (Nat × AK) := []
def ca_X11_within_10 : List (Nat × AA) := []
set_option maxRecDepth 100000 in
theorem cc_X11_within_10 : aChk QPl CF ck_X11_within_10 cg_X11_within_10 xxX11 mX11_within tX11_within ca_X11_within_10 [] 1 = true := by decide +kernel
theorem cx_X11_within_10 : ctsO QQ CF xxX11 cg_X11_within_10 := ctsO_nil
theorem ct_X11_within_10 : ctrO QQ CF ck_X11_within_10 mX11_within := chk_ok (Q := QQ) (QP := QPl) (C := CF) (c := ck_X11_within_10) (G := cg_X11_within_10) (X := xxX11) (M := mX11_within) (t := tX11_within) (anns := ca_X11_within_10) 1 xx11 pl11 rfl kX11_within qq_ok cx_X11_within_10 cc_X11_within_10
def ck_X11_within_11 : AK := (1, [.inl fr, .inl (.negSucc 0, .negSucc 0), .inl (.ofNat 0, .ofNat 3)], [], false, [([(.negSucc 0, .ofNat 3), (.negSucc 0, .negSucc 0), (.ofNat 0, .ofNat 3)], .inl (.ofNat 1, .ofNat 1), []), ([fr, (.negSucc 0, .negSucc 0), (.ofNat 0, .ofNat 3)], .inl (.ofNat 0, .ofNat 0), [])], [])
def cg_X11_within_11 : List (Nat × AK) := []
def ca_X11_within_11 : List (Nat × AA) := []
set_option maxRecDepth 100000 in
theorem cc_X11_within_11 : aChk QPl CF ck_X11_within_11 cg_X11_within_11 xxX11 mX11_within tX11_within ca_X11_within_11 [] 1 = true := by decide +kernel
theorem cx_X11_within_11 : ctsO QQ CF xxX11 cg_X11_within_11 := ctsO_nil
theorem ct_X11_within_11 : ctrO QQ CF ck_X11_within_11 mX11_within := chk_ok (Q := QQ) (QP := QPl) (C := CF) (c := ck_X11_within_11) (G := cg_X11_within_11) (X := xxX11) (M := mX11_within) (t := tX11_within) (anns := ca_X11_within_11) 1 xx11 pl11 rfl kX11_within qq_ok cx_X11_within_11 cc_X11_within_11
def ck_X10_freeBale_1 : AK := (1, [.inr (.inl [28])], [], false, [([], .inl (.ofNat 0, .ofNat 11), []), ([], .inl (.negSucc 0, .negSucc 0), [])], [])
def cg_X10_freeBale_1 : List (Nat × AK) := []
def ca_X10_freeBale_1 : List (Nat × AA) := [(2, [(.ofNat 0, .ofNat 0), (.ofNat 0, .ofNat 12)], [.inr (.inl [28]), .inl (1, .ofNat 0)], [], [], [(0, 1, 0)], (.ofNat 12, [.ofNat 0, .negSucc 0]))]
set_option maxRecDepth 100000 in
theorem cc_X10_freeBale_1 : aChk QPl CF ck_X10_freeBale_1 cg_X10_freeBale_1 xxX10 mX10_freeBale tX10_freeBale ca_X10_freeBale_1 [] 13 = true := by decide +kernel
theorem cx_X10_freeBale_1 : ctsO QQ CF xxX10 cg_X10_freeBale_1 := ctsO_nil
theorem ct_X10_freeBale_1 : ctrO QQ CF ck_X10_freeBale_1 mX10_freeBale := chk_ok (Q := QQ) (QP := QPl) (C := CF) (c := ck_X10_freeBale_1) (G := cg_X10_freeBale_1) (X := xxX10) (M := mX10_freeBale) (t := tX10_freeBale) (anns := ca_X10_freeBale_1) 13 xx10 pl10 rfl kX10_freeBale qq_ok cx_X10_freeBale_1 cc_X10_freeBale_1
def ck_X10_cutLength_1 : AK := (3, [.inr (.inl [28]), .inl fr, .inl fr, .inl fr], [24], false, [([fr, fr, fr], .inl (.ofNat 0, .ofNat 2147483647), [])], [])
def cg_X10_cutLength_1 : List (Nat × AK) := [(46, ck_X9_hasThing_0), (80, ck_X9_hasReaper_0), (33, ck_X9_hasBarn_0), (83, ck_X10_freeBale_1), (49, ck_X2_shadow_0), (39, ck_X10_feetIn_1), (59, ck_X2_allows_0)]
def ca_X10_cutLength_1 : List (Nat × AA) := []
set_option maxRecDepth 100000 in
theorem cc_X10_cutLength_1 : aChk QPl CF ck_X10_cutLength_1 cg_X10_cutLength_1 xxX10 mX10_cutLength tX10_cutLength ca_X10_cutLength_1 [] 1 = true := by decide +kernel
theorem cx_X10_cutLength_1 : ctsO QQ CF xxX10 cg_X10_cutLength_1 := ctsO_cons rfl ct_X9_hasThing_0 (ctsO_cons rfl ct_X9_hasReaper_0 (ctsO_cons rfl ct_X9_hasBarn_0 (ctsO_cons rfl ct_X10_freeBale_1 (ctsO_cons rfl ct_X2_shadow_0 (ctsO_cons rfl ct_X10_feetIn_1 (ctsO_cons rfl ct_X2_allows_0 (ctsO_nil)))))))
theorem ct_X10_cutLength_1 : ctrO QQ CF ck_X10_cutLength_1 mX10_cutLength := chk_ok (Q := QQ) (QP := QPl) (C := CF) (c := ck_X10_cutLength_1) (G := cg_X10_cutLength_1) (X := xxX10) (M := mX10_cutLength) (t := tX10_cutLength) (anns := ca_X10_cutLength_1) 1 xx10 pl10 rfl kX10_cutLength qq_ok cx_X10_cutLength_1 cc_X10_cutLength_1
def ck_X3_consider_0 : AK := (1, [.inr (.inl [36]), .inl fr], [36, 39], false, [([fr], .inr (.inr 9), [])], [])
def cg_X3_consider_0 : List (Nat × AK) := []
def ca_X3_consider_0 : List (Nat × AA) := []
set_option maxRecDepth 100000 in
theorem cc_X3_consider_0 : aChk QPl CF ck_X3_consider_0 cg_X3_consider_0 xxX3 mX3_consider tX3_consider ca_X3_consider_0 [] 1 = true := by decide +kernel
theorem cx_X3_consider_0 : ctsO QQ CF xxX3 cg_X3_consider_0 := ctsO_nil
theorem ct_X3_consider_0 : ctrO QQ CF ck_X3_consider_0 mX3_consider := chk_ok (Q := QQ) (QP := QPl) (C := CF) (c := ck_X3_consider_0) (G := cg_X3_consider_0) (X := xxX3) (M := mX3_consider) (t := tX3_consider) (anns := ca_X3_consider_0) 1 xx3 pl3 rfl kX3_consider qq_ok cx_X3_consider_0 cc_X3_consider_0
def ck_X10_shadowOf_1 : AK := (3, [.inr (.inl [28]), .inl fr], [24], false, [([fr], .inl (.ofNat 0, .ofNat 0), []), ([(.ofNat 0, .ofNat 7)], .inl fr, [])], [])
def cg_X10_shadowOf_1 : List (Nat × AK) := [(46, ck_X9_hasThing_0), (49, ck_X2_shadow_0)]
def ca_X10_shadowOf_1 : List (Nat × AA) := []
set_option maxRecDepth 100000 in
theorem cc_X10_shadowOf_1 : aChk QPl CF ck_X10_shadowOf_1 cg_X10_shadowOf_1 xxX10 mX10_shadowOf tX10_shadowOf ca_X10_shadowOf_1 [] 1 = true := by decide +kernel
theorem cx_X10_shadowOf_1 : ctsO QQ CF xxX10 cg_X10_shadowOf_1 := ctsO_cons rfl ct_X9_hasThing_0 (ctsO_cons rfl ct_X2_shadow_0 (ctsO_nil))
theorem ct_X10_shadowOf_1 : ctrO QQ CF ck_X10_shadowOf_1 mX10_shadowOf := chk_ok (Q := QQ) (QP := QPl) (C := CF) (c := ck_X10_shadowOf_1) (G := cg_X10_shadowOf_1) (X := xxX10) (M := mX10_shadowOf) (t := tX10_shadowOf) (anns := ca_X10_shadowOf_1) 1 xx10 pl10 rfl kX10_shadowOf qq_ok cx_X10_shadowOf_1 cc_X10_shadowOf_1
def ck_X10_bind_1 : AK := (2, [.inr (.inl [28]), .inl fr, .inl fr, .inl fr], [29], false, [([fr, fr, fr], .inl (.ofNat 0, .ofNat 11), []), ([fr, fr, fr], .inl (.negSucc 0, .negSucc 0), [])], [])
def cg_X10_bind_1 : List (Nat × AK) := [(83, ck_X10_freeBale_1)]
def ca_X10_bind_1 : List (Nat × AA) := []
set_option maxRecDepth 100000 in
theorem cc_X10_bind_1 : aChk QPl CF ck_X10_bind_1 cg_X10_bind_1 xxX10 mX10_bind tX10_bind ca_X10_bind_1 [] 1 = true := by decide +kernel
theorem cx_X10_bind_1 : ctsO QQ CF xxX10 cg_X10_bind_1 := ctsO_cons rfl ct_X10_freeBale_1 (ctsO_nil)
theorem ct_X10_bind_1 : ctrO QQ CF ck_X10_bind_1 mX10_bind := chk_ok (Q := QQ) (QP := QPl) (C := CF) (c := ck_X10_bind_1) (G := cg_X10_bind_1) (X := xxX10) (M := mX10_bind) (t := tX10_bind) (anns := ca_X10_bind_1) 1 xx10 pl10 rfl kX10_bind qq_ok cx_X10_bind_1 cc_X10_bind_1
def ck_X10_cutOff_1 : AK := (4, [.inr (.inl [28]), .inl fr, .inl fr, .inl fr], [24, 29], false, [([fr, fr, fr], .inl (.negSucc 0, .negSucc 0), []), ([(.ofNat 0, .ofNat 7), (.ofNat 0, .ofNat 3), fr], .inl (.ofNat 0, .ofNat 11), [])], [])
def cg_X10_cutOff_1 : List (Nat × AK) := [(95, ck_X10_cutLength_1), (99, ck_X10_shadowOf_1), (46, ck_X9_hasThing_0), (80, ck_X9_hasReaper_0), (105, ck_X10_bind_1)]
def ca_X10_cutOff_1 : List (Nat × AA) := []
set_option maxRecDepth 100000 in
theorem cc_X10_cutOff_1 : aChk QPl CF ck_X10_cutOff_1 cg_X10_cutOff_1 xxX10 mX10_cutOff tX10_cutOff ca_X10_cutOff_1 [] 1 = true := by decide +kernel
theorem cx_X10_cutOff_1 : ctsO QQ CF xxX10 cg_X10_cutOff_1 := ctsO_cons rfl ct_X10_cutLength_1 (ctsO_cons rfl ct_X10_shadowOf_1 (ctsO_cons rfl ct_X9_hasThing_0 (ctsO_cons rfl ct_X9_hasReaper_0 (ctsO_cons rfl ct_X10_bind_1 (ctsO_nil)))))
theorem ct_X10_cutOff_1 : ctrO QQ CF ck_X10_cutOff_1 mX10_cutOff := chk_ok (Q := QQ) (QP := QPl) (C := CF) (c := ck_X10_cutOff_1) (G := cg_X10_cutOff_1) (X := xxX10) (M := mX10_cutOff) (t := tX10_cutOff) (anns := ca_X10_cutOff_1) 1 xx10 pl10 rfl kX10_cutOff qq_ok cx_X10_cutOff_1 cc_X10_cutOff_1
def ck_X3_search_0 : AK := (1, [.inr (.inl [36]), .inl (.ofNat 4, .ofNat 4), .inl fr], [], false, [([(.ofNat 4, .ofNat 4), fr], .inr (.inr 9), [])], [])
def cg_X3_search_0 : List (Nat × AK) := []
def ca_X3_search_0 : List (Nat × AA) := []
set_option maxRecDepth 100000 in
theorem cc_X3_search_0 : aChk QPl CF ck_X3_search_0 cg_X3_search_0 xxX3 mX3_search tX3_search ca_X3_search_0 [] 1 = true := by decide +kernel
theorem cx_X3_search_0 : ctsO QQ CF xxX3 cg_X3_search_0 := ctsO_nil
theorem ct_X3_search_0 : ctrO QQ CF ck_X3_search_0 mX3_search := chk_ok (Q := QQ) (QP := QPl) (C := CF) (c := ck_X3_search_0) (G := cg_X3_search_0) (X := xxX3) (M := mX3_search) (t := tX3_search) (anns := ca_X3_search_0) 1 xx3 pl3 rfl kX3_search qq_ok cx_X3_search_0 cc_X3_search_0
def ck_X3_search_1 : AK := (5, [.inr (.inl [36]), .inl (.ofNat 3, .ofNat 3), .inl fr], [24, 29, 36, 37, 38, 39], false, [([(.ofNat 3, .ofNat 3), fr], .inr (.inr 9), [])], [])
def cg_X3_search_1 : List (Nat × AK) := [(68, ck_X10_cutLength_1), (72, ck_X3_consider_0), (76, ck_X10_cutOff_1), (79, ck_X10_passHour_1), (55, ck_X3_search_0)]
def ca_X3_search_1 : List (Nat × AA) := [(72, [(.ofNat 0, .ofNat 0), (.ofNat 3, .ofNat 3), fr, (.ofNat 0, .ofNat 0), (.ofNat 0, .ofNat 10)], [.inr (.inl [36]), .inl (1, .ofNat 0), .inl (2, .ofNat 0), .inl (3, .ofNat 0), .inl (4, .ofNat 0), .inr (.inr 0), .inr (.inr 0)], [], [], [(0, 3, 0), (0, 4, 0)], (.ofNat 10, [.ofNat 0, .ofNat 0, .ofNat 0, .ofNat 0, .negSucc 0]))]
set_option maxRecDepth 100000 in
theorem cc_X3_search_1 : aChk QPl CF ck_X3_search_1 cg_X3_search_1 xxX3 mX3_search tX3_search ca_X3_search_1 [] 11 = true := by decide +kernel
theorem cx_X3_search_1 : ctsO QQ CF xxX3 cg_X3_search_1 := ctsO_cons rfl ct_X10_cutLength_1 (ctsO_cons rfl ct_X3_consider_0 (ctsO_cons rfl ct_X10_cutOff_1 (ctsO_cons rfl ct_X10_passHour_1 (ctsO_cons rfl ct_X3_search_0 (ctsO_nil)))))
theorem ct_X3_search_1 : ctrO QQ CF ck_X3_search_1 mX3_search := chk_ok (Q := QQ) (QP := QPl) (C := CF) (c := ck_X3_search_1) (G := cg_X3_search_1) (X := xxX3) (M := mX3_search) (t := tX3_search) (anns := ca_X3_search_1) 11 xx3 pl3 rfl kX3_search qq_ok cx_X3_search_1 cc_X3_search_1
def ck_X3_search_2 : AK := (6, [.inr (.inl [36]), .inl (.ofNat 2, .ofNat 2), .inl fr], [24, 29, 36, 37, 38, 39], false, [([(.ofNat 2, .ofNat 2), fr], .inr (.inr 9), [])], [])
def cg_X3_search_2 : List (Nat × AK) := [(68, ck_X10_cutLength_1), (72, ck_X3_consider_0), (76, ck_X10_cutOff_1), (79, ck_X10_passHour_1), (55, ck_X3_search_1)]
def ca_X3_search_2 : List (Nat × AA) := [(72, [(.ofNat 0, .ofNat 0), (.ofNat 2, .ofNat 2), fr, (.ofNat 0, .ofNat 0), (.ofNat 0, .ofNat 10)], [.inr (.inl [36]), .inl (1, .ofNat 0), .inl (2, .ofNat 0), .inl (3, .ofNat 0), .inl (4, .ofNat 0), .inr (.inr 0), .inr (.inr 0)], [], [], [(0, 3, 0), (0, 4, 0)], (.ofNat 10, [.ofNat 0, .ofNat 0, .ofNat 0, .ofNat 0, .negSucc 0]))]
set_option maxRecDepth 100000 in
theorem cc_X3_search_2 : aChk QPl CF ck_X3_search_2 cg_X3_search_2 xxX3 mX3_search tX3_search ca_X3_search_2 [] 11 = true := by decide +kernel
theorem cx_X3_search_2 : ctsO QQ CF xxX3 cg_X3_search_2 := ctsO_cons rfl ct_X10_cutLength_1 (ctsO_cons rfl ct_X3_consider_0 (ctsO_cons rfl ct_X10_cutOff_1 (ctsO_cons rfl ct_X10_passHour_1 (ctsO_cons rfl ct_X3_search_1 (ctsO_nil)))))
theorem ct_X3_search_2 : ctrO QQ CF ck_X3_search_2 mX3_search := chk_ok (Q := QQ) (QP := QPl) (C := CF) (c := ck_X3_search_2) (G := cg_X3_search_2) (X := xxX3) (M := mX3_search) (t := tX3_search) (anns := ca_X3_search_2) 11 xx3 pl3 rfl kX3_search qq_ok cx_X3_search_2 cc_X3_search_2
def ck_X3_search_3 : AK := (7, [.inr (.inl [36]), .inl (.ofNat 1, .ofNat 1), .inl fr], [24, 29, 36, 37, 38, 39], false, [([(.ofNat 1, .ofNat 1), fr], .inr (.inr 9), [])], [])
def cg_X3_search_3 : List (Nat × AK) := [(68, ck_X10_cutLength_1), (72, ck_X3_consider_0), (76, ck_X10_cutOff_1), (79, ck_X10_passHour_1), (55, ck_X3_search_2)]
def ca_X3_search_3 : List (Nat × AA) := [(72, [(.ofNat 0, .ofNat 0), (.ofNat 1, .ofNat 1), fr, (.ofNat 0, .ofNat 0), (.ofNat 0, .ofNat 10)], [.inr (.inl [36]), .inl (1, .ofNat 0), .inl (2, .ofNat 0), .inl (3, .ofNat 0), .inl (4, .ofNat 0), .inr (.inr 0), .inr (.inr 0)], [], [], [(0, 3, 0), (0, 4, 0)], (.ofNat 10, [.ofNat 0, .ofNat 0, .ofNat 0, .ofNat 0, .negSucc 0]))]
set_option maxRecDepth 100000 in
theorem cc_X3_search_3 : aChk QPl CF ck_X3_search_3 cg_X3_search_3 xxX3 mX3_search tX3_search ca_X3_search_3 [] 11 = true := by decide +kernel
theorem cx_X3_search_3 : ctsO QQ CF xxX3 cg_X3_search_3 := ctsO_cons rfl ct_X10_cutLength_1 (ctsO_cons rfl ct_X3_consider_0 (ctsO_cons rfl ct_X10_cutOff_1 (ctsO_cons rfl ct_X10_passHour_1 (ctsO_cons rfl ct_X3_search_2 (ctsO_nil)))))
theorem ct_X3_search_3 : ctrO QQ CF ck_X3_search_3 mX3_search := chk_ok (Q := QQ) (QP := QPl) (C := CF) (c := ck_X3_search_3) (G := cg_X3_search_3) (X := xxX3) (M := mX3_search) (t := tX3_search) (anns := ca_X3_search_3) 11 xx3 pl3 rfl kX3_search qq_ok cx_X3_search_3 cc_X3_search_3
def ck_X3_search_4 : AK := (8, [.inr (.inl [36]), .inl (.ofNat 0, .ofNat 0), .inl fr], [24, 29, 36, 37, 38, 39], false, [([(.ofNat 0, .ofNat 0), fr], .inr (.inr 9), [])], [])
def cg_X3_search_4 : List (Nat × AK) := [(68, ck_X10_cutLength_1), (72, ck_X3_consider_0), (76, ck_X10_cutOff_1), (79, ck_X10_passHour_1), (55, ck_X3_search_3)]
def ca_X3_search_4 : List (Nat × AA) := [(72, [(.ofNat 0, .ofNat 0), (.ofNat 0, .ofNat 0), fr, (.ofNat 0, .ofNat 0), (.ofNat 0, .ofNat 10)], [.inr (.inl [36]), .inl (1, .ofNat 0), .inl (2, .ofNat 0), .inl (3, .ofNat 0), .inl (4, .ofNat 0), .inr (.inr 0), .inr (.inr 0)], [], [], [(0, 3, 0), (0, 4, 0)], (.ofNat 10, [.ofNat 0, .ofNat 0, .ofNat 0, .ofNat 0, .negSucc 0]))]
set_option maxRecDepth 100000 in
theorem cc_X3_search_4 : aChk QPl CF ck_X3_search_4 cg_X3_search_4 xxX3 mX3_search tX3_search ca_X3_search_4 [] 11 = true := by decide +kernel
theorem cx_X3_search_4 : ctsO QQ CF xxX3 cg_X3_search_4 := ctsO_cons rfl ct_X10_cutLength_1 (ctsO_cons rfl ct_X3_consider_0 (ctsO_cons rfl ct_X10_cutOff_1 (ctsO_cons rfl ct_X10_passHour_1 (ctsO_cons rfl ct_X3_search_3 (ctsO_nil)))))
theorem ct_X3_search_4 : ctrO QQ CF ck_X3_search_4 mX3_search := chk_ok (Q := QQ) (QP := QPl) (C := CF) (c := ck_X3_search_4) (G := cg_X3_search_4) (X := xxX3) (M := mX3_search) (t := tX3_search) (anns := ca_X3_search_4) 11 xx3 pl3 rfl kX3_search qq_ok cx_X3_search_4 cc_X3_search_4
def ck_X3_start_0 : AK := (9, [.inr (.inl [36]), .inl fr, .inl fr, .inl fr], [24, 29, 36, 37, 38, 39], false, [([fr, fr, fr], .inr (.inr 9), [])], [])
def cg_X3_start_0 : List (Nat × AK) := [(47, ck_X9_hasReaper_0), (55, ck_X3_search_4)]
def ca_X3_start_0 : List (Nat × AA) := []
set_option maxRecDepth 100000 in
theorem cc_X3_start_0 : aChk QPl CF ck_X3_start_0 cg_X3_start_0 xxX3 mX3_start tX3_start ca_X3_start_0 [] 1 = true := by decide +kernel
theorem cx_X3_start_0 : ctsO QQ CF xxX3 cg_X3_start_0 := ctsO_cons rfl ct_X9_hasReaper_0 (ctsO_cons rfl ct_X3_search_4 (ctsO_nil))
theorem ct_X3_start_0 : ctrO QQ CF ck_X3_start_0 mX3_start := chk_ok (Q := QQ) (QP := QPl) (C := CF) (c := ck_X3_start_0) (G := cg_X3_start_0) (X := xxX3) (M := mX3_start) (t := tX3_start) (anns := ca_X3_start_0) 1 xx3 pl3 rfl kX3_start qq_ok cx_X3_start_0 cc_X3_start_0
def ck_X3_thingAt_0 : AK := (1, [.inr (.inl [36]), .inl fr], [], false, [([(.ofNat 0, .ofNat 3)], .inl fr, []), ([fr], .inl (.negSucc 0, .negSucc 0), [])], [])
def cg_X3_thingAt_0 : List (Nat × AK) := []
def ca_X3_thingAt_0 : List (Nat × AA) := []
set_option maxRecDepth 100000 in
theorem cc_X3_thingAt_0 : aChk QPl CF ck_X3_thingAt_0 cg_X3_thingAt_0 xxX3 mX3_thingAt tX3_thingAt ca_X3_thingAt_0 [] 1 = true := by decide +kernel
theorem cx_X3_thingAt_0 : ctsO QQ CF xxX3 cg_X3_thingAt_0 := ctsO_nil
theorem ct_X3_thingAt_0 : ctrO QQ CF ck_X3_thingAt_0 mX3_thingAt := chk_ok (Q := QQ) (QP := QPl) (C := CF) (c := ck_X3_thingAt_0) (G := cg_X3_thingAt_0) (X := xxX3) (M := mX3_thingAt) (t := tX3_thingAt) (anns := ca_X3_thingAt_0) 1 xx3 pl3 rfl kX3_thingAt qq_ok cx_X3_thingAt_0 cc_X3_thingAt_0
def ck_X11_most_0 : AK := (10, [.inr (.inl [0]), .inl fr, .inl fr, .inl fr, .inl fr], [24, 29, 36, 37, 38, 39], false, [([(.ofNat 0, .ofNat 3), (.ofNat 0, .ofNat 3), (.ofNat 1, .ofNat 4), (.negSucc 0, .ofNat 3)], .inl fr, []), ([fr, fr, fr, fr], .inl (.negSucc 0, .negSucc 0), [])], [])
def cg_X11_most_0 : List (Nat × AK) := [(286, ck_X9_hasReaper_0), (152, ck_X9_hasBarn_0), (120, ck_X11_within_10), (120, ck_X11_within_11), (304, ck_X10_takeFrom_0), (310, ck_X3_start_0), (317, ck_X3_thingAt_0)]
def ca_X11_most_0 : List (Nat × AA) := []
set_option maxRecDepth 100000 in
theorem cc_X11_most_0 : aChk QPl CF ck_X11_most_0 cg_X11_most_0 xxX11 mX11_most tX11_most ca_X11_most_0 [] 1 = true := by decide +kernel
theorem cx_X11_most_0 : ctsO QQ CF xxX11 cg_X11_most_0 := ctsO_cons rfl ct_X9_hasReaper_0 (ctsO_cons rfl ct_X9_hasBarn_0 (ctsO_cons rfl ct_X11_within_10 (ctsO_cons rfl ct_X11_within_11 (ctsO_cons rfl ct_X10_takeFrom_0 (ctsO_cons rfl ct_X3_start_0 (ctsO_cons rfl ct_X3_thingAt_0 (ctsO_nil)))))))
theorem ct_X11_most_0 : ctrO QQ CF ck_X11_most_0 mX11_most := chk_ok (Q := QQ) (QP := QPl) (C := CF) (c := ck_X11_most_0) (G := cg_X11_most_0) (X := xxX11) (M := mX11_most) (t := tX11_most) (anns := ca_X11_most_0) 1 xx11 pl11 rfl kX11_most qq_ok cx_X11_most_0 cc_X11_most_0
def ck_X11_within_12 : AK := (1, [.inl fr, .inl (.ofNat 0, .ofNat 0), .inl (.ofNat 999, .ofNat 999)], [], false, [([(.ofNat 0, .ofNat 999), (.ofNat 0, .ofNat 0), (.ofNat 999, .ofNat 999)], .inl (.ofNat 1, .ofNat 1), []), ([fr, (.ofNat 0, .ofNat 0), (.ofNat 999, .ofNat 999)], .inl (.ofNat 0, .ofNat 0), [])], [])
def cg_X11_within_12 : List (Nat × AK) := []
def ca_X11_within_12 : List (Nat × AA) := []
set_option maxRecDepth 100000 in
theorem cc_X11_within_12 : aChk QPl CF ck_X11_within_12 cg_X11_within_12 xxX11 mX11_within tX11_within ca_X11_within_12 [] 1 = true := by decide +kernel
theorem cx_X11_within_12 : ctsO QQ CF xxX11 cg_X11_within_12 := ctsO_nil
theorem ct_X11_within_12 : ctrO QQ CF ck_X11_within_12 mX11_within := chk_ok (Q := QQ) (QP := QPl) (C := CF) (c := ck_X11_within_12) (G := cg_X11_within_12) (X := xxX11) (M := mX11_within) (t := tX11_within) (anns := ca_X11_within_12) 1 xx11 pl11 rfl kX11_within qq_ok cx_X11_within_12 cc_X11_within_12
def ck_X11_within_14 : AK := (1, [.inl fr, .inl (.ofNat 1, .ofNat 1), .inl (.ofNat 9999, .ofNat 9999)], [], false, [([(.ofNat 1, .ofNat 9999), (.ofNat 1, .ofNat 1), (.ofNat 9999, .ofNat 9999)], .inl (.ofNat 1, .ofNat 1), []), ([fr, (.ofNat 1, .ofNat 1), (.ofNat 9999, .ofNat 9999)], .inl (.ofNat 0, .ofNat 0), [])], [])
def cg_X11_within_14 : List (Nat × AK) := []
def ca_X11_within_14 : List (Nat × AA) := []
set_option maxRecDepth 100000 in
theorem cc_X11_within_14 : aChk QPl CF ck_X11_within_14 cg_X11_within_14 xxX11 mX11_within tX11_within ca_X11_within_14 [] 1 = true := by decide +kernel
theorem cx_X11_within_14 : ctsO QQ CF xxX11 cg_X11_within_14 := ctsO_nil
theorem ct_X11_within_14 : ctrO QQ CF ck_X11_within_14 mX11_within := chk_ok (Q := QQ) (QP := QPl) (C := CF) (c := ck_X11_within_14) (G := cg_X11_within_14) (X := xxX11) (M := mX11_within) (t := tX11_within) (anns := ca_X11_within_14) 1 xx11 pl11 rfl kX11_within qq_ok cx_X11_within_14 cc_X11_within_14
def ck_X11_within_15 : AK := (1, [.inl fr, .inl (.ofNat 0, .ofNat 0), .inl (.ofNat 60, .ofNat 60)], [], false, [([(.ofNat 0, .ofNat 60), (.ofNat 0, .ofNat 0), (.ofNat 60, .ofNat 60)], .inl (.ofNat 1, .ofNat 1), []), ([fr, (.ofNat 0, .ofNat 0), (.ofNat 60, .ofNat 60)], .inl (.ofNat 0, .ofNat 0), [])], [])
def cg_X11_within_15 : List (Nat × AK) := []
def ca_X11_within_15 : List (Nat × AA) := []
set_option maxRecDepth 100000 in
theorem cc_X11_within_15 : aChk QPl CF ck_X11_within_15 cg_X11_within_15 xxX11 mX11_within tX11_within ca_X11_within_15 [] 1 = true := by decide +kernel
theorem cx_X11_within_15 : ctsO QQ CF xxX11 cg_X11_within_15 := ctsO_nil
theorem ct_X11_within_15 : ctrO QQ CF ck_X11_within_15 mX11_within := chk_ok (Q := QQ) (QP := QPl) (C := CF) (c := ck_X11_within_15) (G := cg_X11_within_15) (X := xxX11) (M := mX11_within) (t := tX11_within) (anns := ca_X11_within_15) 1 xx11 pl11 rfl kX11_within qq_ok cx_X11_within_15 cc_X11_within_15
def ck_X10_longestFeet_0 : AK := (1, [.inr (.inl [28]), .inl fr, .inl fr], [], false, [([fr, fr], .inl fr, [])], [])
def cg_X10_longestFeet_0 : List (Nat × AK) := []
def ca_X10_longestFeet_0 : List (Nat × AA) := [(8, [(.ofNat 0, .ofNat 0), fr, fr, fr, fr, (.ofNat 0, .ofNat 2147483647)], [.inr (.inl [28]), .inl (1, .ofNat 0), .inl (2, .ofNat 0), .inl (3, .ofNat 0), .inl (4, .ofNat 0), .inl (5, .ofNat 0), .inr (.inr 0), .inr (.inr 0), .inr (.inr 0)], [], [], [(0, 3, 0), (0, 4, 0), (0, 5, 0)], (.ofNat 30064771071, [.ofNat 0, .ofNat 0, .ofNat 0, .ofNat 0, .ofNat 0, .negSucc 13])), (20, [(.ofNat 0, .ofNat 0), fr, (.ofNat 1, .ofNat 2147483647), fr, fr, (.ofNat 0, .ofNat 2147483646), (.negSucc 0, .ofNat 11), (.ofNat 0, .ofNat 12)], [.inr (.inl [28]), .inl (1, .ofNat 0), .inl (2, .ofNat 0), .inl (3, .ofNat 0), .inl (4, .ofNat 0), .inl (5, .ofNat 0), .inl (6, .ofNat 0), .inl (7, .ofNat 0), .inr (.inr 0)], [], [], [(0, 3, 0), (0, 4, 0), (0, 5, 0), (0, 6, 0), (0, 7, 0)], (.ofNat 30064771070, [.ofNat 0, .ofNat 0, .ofNat 0, .ofNat 0, .ofNat 0, .negSucc 13, .ofNat 0, .negSucc 0]))]
set_option maxRecDepth 100000 in
theorem cc_X10_longestFeet_0 : aChk QPl CF ck_X10_longestFeet_0 cg_X10_longestFeet_0 xxX10 mX10_longestFeet tX10_longestFeet ca_X10_longestFeet_0 [] 30064771072 = true := by decide +kernel
theorem cx_X10_longestFeet_0 : ctsO QQ CF xxX10 cg_X10_longestFeet_0 := ctsO_nil
theorem ct_X10_longestFeet_0 : ctrO QQ CF ck_X10_longestFeet_0 mX10_longestFeet := chk_ok (Q := QQ) (QP := QPl) (C := CF) (c := ck_X10_longestFeet_0) (G := cg_X10_longestFeet_0) (X := xxX10) (M := mX10_longestFeet) (t := tX10_longestFeet) (anns := ca_X10_longestFeet_0) 30064771072 xx10 pl10 rfl kX10_longestFeet qq_ok cx_X10_longestFeet_0 cc_X10_longestFeet_0
def ck_X11_enough_0 : AK := (6, [.inr (.inl [0]), .inl fr, .inl fr], [24, 29], false, [([fr, fr], .inl (.negSucc 0, .negSucc 0), []), ([(.ofNat 1, .ofNat 9999), (.ofNat 0, .ofNat 60)], .inl fr, [])], [])
def cg_X11_enough_0 : List (Nat × AK) := [(120, ck_X11_within_14), (120, ck_X11_within_15), (307, ck_X11_foresee_0), (323, ck_X10_longestFeet_0)]
def ca_X11_enough_0 : List (Nat × AA) := [(30, [(.ofNat 0, .ofNat 0), (.ofNat 1, .ofNat 9999), (.ofNat 0, .ofNat 60), (.ofNat 1, .ofNat 23)], [.inr (.inl [0]), .inl (1, .ofNat 0), .inl (2, .ofNat 0), .inl (3, .ofNat 0), .inr (.inr 0), .inr (.inr 0), .inr (.inr 0)], [], [], [(0, 3, 0)], (.ofNat 36, [.ofNat 0, .ofNat 0, .ofNat 0, .negSucc 0])), (74, [(.ofNat 0, .ofNat 0), (.ofNat 1, .ofNat 9999), (.ofNat 0, .ofNat 60), fr, fr, (.negSucc 0, .ofNat 11), fr], [.inr (.inl [0]), .inl (1, .ofNat 0), .inl (2, .ofNat 0), .inl (3, .ofNat 0), .inl (4, .ofNat 0), .inl (6, .ofNat 0), .inl (5, .ofNat 0)], [], [], [(0, 3, 0), (0, 4, 0), (0, 6, 0), (0, 5, 0)], (.ofNat 1, [.ofNat 0, .ofNat 0, .ofNat 0, .ofNat 0, .ofNat 0, .ofNat 1, .ofNat 0]))]
set_option maxRecDepth 100000 in
theorem cc_X11_enough_0 : aChk QPl CF ck_X11_enough_0 cg_X11_enough_0 xxX11 mX11_enough tX11_enough ca_X11_enough_0 [] 36 = true := by decide +kernel
theorem cx_X11_enough_0 : ctsO QQ CF xxX11 cg_X11_enough_0 := ctsO_cons rfl ct_X11_within_14 (ctsO_cons rfl ct_X11_within_15 (ctsO_cons rfl ct_X11_foresee_0 (ctsO_cons rfl ct_X10_longestFeet_0 (ctsO_nil))))
theorem ct_X11_enough_0 : ctrO QQ CF ck_X11_enough_0 mX11_enough := chk_ok (Q := QQ) (QP := QPl) (C := CF) (c := ck_X11_enough_0) (G := cg_X11_enough_0) (X := xxX11) (M := mX11_enough) (t := tX11_enough) (anns := ca_X11_enough_0) 36 xx11 pl11 rfl kX11_enough qq_ok cx_X11_enough_0 cc_X11_enough_0
def ck_X11_within_16 : AK := (1, [.inl fr, .inl (.ofNat 1, .ofNat 1), .inl (.ofNat 8, .ofNat 8)], [], false, [([(.ofNat 1, .ofNat 8), (.ofNat 1, .ofNat 1), (.ofNat 8, .ofNat 8)], .inl (.ofNat 1, .ofNat 1), []), ([fr, (.ofNat 1, .ofNat 1), (.ofNat 8, .ofNat 8)], .inl (.ofNat 0, .ofNat 0), [])], [])
def cg_X11_within_16 : List (Nat × AK) := []
def ca_X11_within_16 : List (Nat × AA) := []
set_option maxRecDepth 100000 in
theorem cc_X11_within_16 : aChk QPl CF ck_X11_within_16 cg_X11_within_16 xxX11 mX11_within tX11_within ca_X11_within_16 [] 1 = true := by decide +kernel
theorem cx_X11_within_16 : ctsO QQ CF xxX11 cg_X11_within_16 := ctsO_nil
theorem ct_X11_within_16 : ctrO QQ CF ck_X11_within_16 mX11_within := chk_ok (Q := QQ) (QP := QPl) (C := CF) (c := ck_X11_within_16) (G := cg_X11_within_16) (X := xxX11) (M := mX11_within) (t := tX11_within) (anns := ca_X11_within_16) 1 xx11 pl11 rfl kX11_within qq_ok cx_X11_within_16 cc_X11_within_16
def ck_X11_within_17 : AK := (1, [.inl fr, .inl (.ofNat 0, .ofNat 0), .inl (.ofNat 9, .ofNat 9)], [], false, [([(.ofNat 0, .ofNat 9), (.ofNat 0, .ofNat 0), (.ofNat 9, .ofNat 9)], .inl (.ofNat 1, .ofNat 1), []), ([fr, (.ofNat 0, .ofNat 0), (.ofNat 9, .ofNat 9)], .inl (.ofNat 0, .ofNat 0), [])], [])
def cg_X11_within_17 : List (Nat × AK) := []
def ca_X11_within_17 : List (Nat × AA) := []
set_option maxRecDepth 100000 in
theorem cc_X11_within_17 : aChk QPl CF ck_X11_within_17 cg_X11_within_17 xxX11 mX11_within tX11_within ca_X11_within_17 [] 1 = true := by decide +kernel
theorem cx_X11_within_17 : ctsO QQ CF xxX11 cg_X11_within_17 := ctsO_nil
theorem ct_X11_within_17 : ctrO QQ CF ck_X11_within_17 mX11_within := chk_ok (Q := QQ) (QP := QPl) (C := CF) (c := ck_X11_within_17) (G := cg_X11_within_17) (X := xxX11) (M := mX11_within) (t := tX11_within) (anns := ca_X11_within_17) 1 xx11 pl11 rfl kX11_within qq_ok cx_X11_within_17 cc_X11_within_17
def ck_X11_within_18 : AK := (1, [.inl fr, .inl (.ofNat 0, .ofNat 0), .inl (.ofNat 1, .ofNat 1)], [], false, [([(.ofNat 0, .ofNat 1), (.ofNat 0, .ofNat 0), (.ofNat 1, .ofNat 1)], .inl (.ofNat 1, .ofNat 1), []), ([fr, (.ofNat 0, .ofNat 0), (.ofNat 1, .ofNat 1)], .inl (.ofNat 0, .ofNat 0), [])], [])
def cg_X11_within_18 : List (Nat × AK) := []
def ca_X11_within_18 : List (Nat × AA) := []
set_option maxRecDepth 100000 in
theorem cc_X11_within_18 : aChk QPl CF ck_X11_within_18 cg_X11_within_18 xxX11 mX11_within tX11_within ca_X11_within_18 [] 1 = true := by decide +kernel
theorem cx_X11_within_18 : ctsO QQ CF xxX11 cg_X11_within_18 := ctsO_nil
theorem ct_X11_within_18 : ctrO QQ CF ck_X11_within_18 mX11_within := chk_ok (Q := QQ) (QP := QPl) (C := CF) (c := ck_X11_within_18) (G := cg_X11_within_18) (X := xxX11) (M := mX11_within) (t := tX11_within) (anns := ca_X11_within_18) 1 xx11 pl11 rfl kX11_within qq_ok cx_X11_within_18 cc_X11_within_18
def ck_X0_grownBehind_0 : AK := (3, [.inr (.inl [40]), .inl fr, .inl fr], [24], false, [([fr, fr], .inl (.negSucc 2147483647, .ofNat 100), [])], [])
def cg_X0_grownBehind_0 : List (Nat × AK) := [(63, ck_X2_growth_0)]
def ca_X0_grownBehind_0 : List (Nat × AA) := []
set_option maxRecDepth 100000 in
theorem cc_X0_grownBehind_0 : aChk QPl CF ck_X0_grownBehind_0 cg_X0_grownBehind_0 xxX0 mX0_grownBehind tX0_grownBehind ca_X0_grownBehind_0 [] 1 = true := by decide +kernel
theorem cx_X0_grownBehind_0 : ctsO QQ CF xxX0 cg_X0_grownBehind_0 := ctsO_cons rfl ct_X2_growth_0 (ctsO_nil)
theorem ct_X0_grownBehind_0 : ctrO QQ CF ck_X0_grownBehind_0 mX0_grownBehind := chk_ok (Q := QQ) (QP := QPl) (C := CF) (c := ck_X0_grownBehind_0) (G := cg_X0_grownBehind_0) (X := xxX0) (M := mX0_grownBehind) (t := tX0_grownBehind) (anns := ca_X0_grownBehind_0) 1 xx0 pl0 rfl kX0_grownBehind qq_ok cx_X0_grownBehind_0 cc_X0_grownBehind_0
def ck_X0_search_0 : AK := (1, [.inr (.inl [40]), .inl (.ofNat 8, .ofNat 8), .inl fr, .inl fr, .inl fr], [40], false, [([(.ofNat 8, .ofNat 8), fr, fr, fr], .inr (.inr 9), [])], [])
def cg_X0_search_0 : List (Nat × AK) := []
def ca_X0_search_0 : List (Nat × AA) := []
set_option maxRecDepth 100000 in
theorem cc_X0_search_0 : aChk QPl CF ck_X0_search_0 cg_X0_search_0 xxX0 mX0_search tX0_search ca_X0_search_0 [] 1 = true := by decide +kernel
theorem cx_X0_search_0 : ctsO QQ CF xxX0 cg_X0_search_0 := ctsO_nil
theorem ct_X0_search_0 : ctrO QQ CF ck_X0_search_0 mX0_search := chk_ok (Q := QQ) (QP := QPl) (C := CF) (c := ck_X0_search_0) (G := cg_X0_search_0) (X := xxX0) (M := mX0_search) (t := tX0_search) (anns := ca_X0_search_0) 1 xx0 pl0 rfl kX0_search qq_ok cx_X0_search_0 cc_X0_search_0
def ck_X0_search_1 : AK := (4, [.inr (.inl [40]), .inl (.ofNat 7, .ofNat 7), .inl fr, .inl fr, .inl fr], [24, 40], false, [([(.ofNat 7, .ofNat 7), fr, fr, fr], .inr (.inr 9), [])], [])
def cg_X0_search_1 : List (Nat × AK) := [(55, ck_X2_shadow_0), (59, ck_X0_grownBehind_0), (51, ck_X0_search_0)]
def ca_X0_search_1 : List (Nat × AA) := []
set_option maxRecDepth 100000 in
theorem cc_X0_search_1 : aChk QPl CF ck_X0_search_1 cg_X0_search_1 xxX0 mX0_search tX0_search ca_X0_search_1 [] 1 = true := by decide +kernel
theorem cx_X0_search_1 : ctsO QQ CF xxX0 cg_X0_search_1 := ctsO_cons rfl ct_X2_shadow_0 (ctsO_cons rfl ct_X0_grownBehind_0 (ctsO_cons rfl ct_X0_search_0 (ctsO_nil)))
theorem ct_X0_search_1 : ctrO QQ CF ck_X0_search_1 mX0_search := chk_ok (Q := QQ) (QP := QPl) (C := CF) (c := ck_X0_search_1) (G := cg_X0_search_1) (X := xxX0) (M := mX0_search) (t := tX0_search) (anns := ca_X0_search_1) 1 xx0 pl0 rfl kX0_search qq_ok cx_X0_search_1 cc_X0_search_1
def ck_X0_search_2 : AK := (5, [.inr (.inl [40]), .inl (.ofNat 6, .ofNat 6), .inl fr, .inl fr, .inl fr], [24, 40], false, [([(.ofNat 6, .ofNat 6), fr, fr, fr], .inr (.inr 9), [])], [])
def cg_X0_search_2 : List (Nat × AK) := [(55, ck_X2_shadow_0), (59, ck_X0_grownBehind_0), (51, ck_X0_search_1)]
def ca_X0_search_2 : List (Nat × AA) := []
set_option maxRecDepth 100000 in
theorem cc_X0_search_2 : aChk QPl CF ck_X0_search_2 cg_X0_search_2 xxX0 mX0_search tX0_search ca_X0_search_2 [] 1 = true := by decide +kernel
theorem cx_X0_search_2 : ctsO QQ CF xxX0 cg_X0_search_2 := ctsO_cons rfl ct_X2_shadow_0 (ctsO_cons rfl ct_X0_grownBehind_0 (ctsO_cons rfl ct_X0_search_1 (ctsO_nil)))
theorem ct_X0_search_2 : ctrO QQ CF ck_X0_search_2 mX0_search := chk_ok (Q := QQ) (QP := QPl) (C := CF) (c := ck_X0_search_2) (G := cg_X0_search_2) (X := xxX0) (M := mX0_search) (t := tX0_search) (anns := ca_X0_search_2) 1 xx0 pl0 rfl kX0_search qq_ok cx_X0_search_2 cc_X0_search_2
def ck_X0_search_3 : AK := (6, [.inr (.inl [40]), .inl (.ofNat 5, .ofNat 5), .inl fr, .inl fr, .inl fr], [24, 40], false, [([(.ofNat 5, .ofNat 5), fr, fr, fr], .inr (.inr 9), [])], [])
def cg_X0_search_3 : List (Nat × AK) := [(55, ck_X2_shadow_0), (59, ck_X0_grownBehind_0), (51, ck_X0_search_2)]
def ca_X0_search_3 : List (Nat × AA) := []
set_option maxRecDepth 100000 in
theorem cc_X0_search_3 : aChk QPl CF ck_X0_search_3 cg_X0_search_3 xxX0 mX0_search tX0_search ca_X0_search_3 [] 1 = true := by decide +kernel
theorem cx_X0_search_3 : ctsO QQ CF xxX0 cg_X0_search_3 := ctsO_cons rfl ct_X2_shadow_0 (ctsO_cons rfl ct_X0_grownBehind_0 (ctsO_cons rfl ct_X0_search_2 (ctsO_nil)))
theorem ct_X0_search_3 : ctrO QQ CF ck_X0_search_3 mX0_search := chk_ok (Q := QQ) (QP := QPl) (C := CF) (c := ck_X0_search_3) (G := cg_X0_search_3) (X := xxX0) (M := mX0_search) (t := tX0_search) (anns := ca_X0_search_3) 1 xx0 pl0 rfl kX0_search qq_ok cx_X0_search_3 cc_X0_search_3
def ck_X0_search_4 : AK := (7, [.inr (.inl [40]), .inl (.ofNat 4, .ofNat 4), .inl fr, .inl fr, .inl fr], [24, 40], false, [([(.ofNat 4, .ofNat 4), fr, fr, fr], .inr (.inr 9), [])], [])
def cg_X0_search_4 : List (Nat × AK) := [(55, ck_X2_shadow_0), (59, ck_X0_grownBehind_0), (51, ck_X0_search_3)]
def ca_X0_search_4 : List (Nat × AA) := []
set_option maxRecDepth 100000 in
theorem cc_X0_search_4 : aChk QPl CF ck_X0_search_4 cg_X0_search_4 xxX0 mX0_search tX0_search ca_X0_search_4 [] 1 = true := by decide +kernel
theorem cx_X0_search_4 : ctsO QQ CF xxX0 cg_X0_search_4 := ctsO_cons rfl ct_X2_shadow_0 (ctsO_cons rfl ct_X0_grownBehind_0 (ctsO_cons rfl ct_X0_search_3 (ctsO_nil)))
theorem ct_X0_search_4 : ctrO QQ CF ck_X0_search_4 mX0_search := chk_ok (Q := QQ) (QP := QPl) (C := CF) (c := ck_X0_search_4) (G := cg_X0_search_4) (X := xxX0) (M := mX0_search) (t := tX0_search) (anns := ca_X0_search_4) 1 xx0 pl0 rfl kX0_search qq_ok cx_X0_search_4 cc_X0_search_4
def ck_X0_search_5 : AK := (8, [.inr (.inl [40]), .inl (.ofNat 3, .ofNat 3), .inl fr, .inl fr, .inl fr], [24, 40], false, [([(.ofNat 3, .ofNat 3), fr, fr, fr], .inr (.inr 9), [])], [])
def cg_X0_search_5 : List (Nat × AK) := [(55, ck_X2_shadow_0), (59, ck_X0_grownBehind_0), (51, ck_X0_search_4)]
def ca_X0_search_5 : List (Nat × AA) := []
set_option maxRecDepth 100000 in
theorem cc_X0_search_5 : aChk QPl CF ck_X0_search_5 cg_X0_search_5 xxX0 mX0_search tX0_search ca_X0_search_5 [] 1 = true := by decide +kernel
theorem cx_X0_search_5 : ctsO QQ CF xxX0 cg_X0_search_5 := ctsO_cons rfl ct_X2_shadow_0 (ctsO_cons rfl ct_X0_grownBehind_0 (ctsO_cons rfl ct_X0_search_4 (ctsO_nil)))
theorem ct_X0_search_5 : ctrO QQ CF ck_X0_search_5 mX0_search := chk_ok (Q := QQ) (QP := QPl) (C := CF) (c := ck_X0_search_5) (G := cg_X0_search_5) (X := xxX0) (M := mX0_search) (t := tX0_search) (anns := ca_X0_search_5) 1 xx0 pl0 rfl kX0_search qq_ok cx_X0_search_5 cc_X0_search_5
def ck_X0_search_6 : AK := (9, [.inr (.inl [40]), .inl (.ofNat 2, .ofNat 2), .inl fr, .inl fr, .inl fr], [24, 40], false, [([(.ofNat 2, .ofNat 2), fr, fr, fr], .inr (.inr 9), [])], [])
def cg_X0_search_6 : List (Nat × AK) := [(55, ck_X2_shadow_0), (59, ck_X0_grownBehind_0), (51, ck_X0_search_5)]
def ca_X0_search_6 : List (Nat × AA) := []
set_option maxRecDepth 100000 in
theorem cc_X0_search_6 : aChk QPl CF ck_X0_search_6 cg_X0_search_6 xxX0 mX0_search tX0_search ca_X0_search_6 [] 1 = true := by decide +kernel
theorem cx_X0_search_6 : ctsO QQ CF xxX0 cg_X0_search_6 := ctsO_cons rfl ct_X2_shadow_0 (ctsO_cons rfl ct_X0_grownBehind_0 (ctsO_cons rfl ct_X0_search_5 (ctsO_nil)))
theorem ct_X0_search_6 : ctrO QQ CF ck_X0_search_6 mX0_search := chk_ok (Q := QQ) (QP := QPl) (C := CF) (c := ck_X0_search_6) (G := cg_X0_search_6) (X := xxX0) (M := mX0_search) (t := tX0_search) (anns := ca_X0_search_6) 1 xx0 pl0 rfl kX0_search qq_ok cx_X0_search_6 cc_X0_search_6
def ck_X0_search_7 : AK := (10, [.inr (.inl [40]), .inl (.ofNat 1, .ofNat 1), .inl fr, .inl fr, .inl fr], [24, 40], false, [([(.ofNat 1, .ofNat 1), fr, fr, fr], .inr (.inr 9), [])], [])
def cg_X0_search_7 : List (Nat × AK) := [(55, ck_X2_shadow_0), (59, ck_X0_grownBehind_0), (51, ck_X0_search_6)]
def ca_X0_search_7 : List (Nat × AA) := []
set_option maxRecDepth 100000 in
theorem cc_X0_search_7 : aChk QPl CF ck_X0_search_7 cg_X0_search_7 xxX0 mX0_search tX0_search ca_X0_search_7 [] 1 = true := by decide +kernel
theorem cx_X0_search_7 : ctsO QQ CF xxX0 cg_X0_search_7 := ctsO_cons rfl ct_X2_shadow_0 (ctsO_cons rfl ct_X0_grownBehind_0 (ctsO_cons rfl ct_X0_search_6 (ctsO_nil)))
theorem ct_X0_search_7 : ctrO QQ CF ck_X0_search_7 mX0_search := chk_ok (Q := QQ) (QP := QPl) (C := CF) (c := ck_X0_search_7) (G := cg_X0_search_7) (X := xxX0) (M := mX0_search) (t := tX0_search) (anns := ca_X0_search_7) 1 xx0 pl0 rfl kX0_search qq_ok cx_X0_search_7 cc_X0_search_7
def ck_X0_search_8 : AK := (11, [.inr (.inl [40]), .inl (.ofNat 0, .ofNat 0), .inl fr, .inl fr, .inl fr], [24, 40], false, [([(.ofNat 0, .ofNat 0), fr, fr, fr], .inr (.inr 9), [])], [])
def cg_X0_search_8 : List (Nat × AK) := [(55, ck_X2_shadow_0), (59, ck_X0_grownBehind_0), (51, ck_X0_search_7)]
def ca_X0_search_8 : List (Nat × AA) := []
set_option maxRecDepth 100000 in
theorem cc_X0_search_8 : aChk QPl CF ck_X0_search_8 cg_X0_search_8 xxX0 mX0_search tX0_search ca_X0_search_8 [] 1 = true := by decide +kernel
theorem cx_X0_search_8 : ctsO QQ CF xxX0 cg_X0_search_8 := ctsO_cons rfl ct_X2_shadow_0 (ctsO_cons rfl ct_X0_grownBehind_0 (ctsO_cons rfl ct_X0_search_7 (ctsO_nil)))
theorem ct_X0_search_8 : ctrO QQ CF ck_X0_search_8 mX0_search := chk_ok (Q := QQ) (QP := QPl) (C := CF) (c := ck_X0_search_8) (G := cg_X0_search_8) (X := xxX0) (M := mX0_search) (t := tX0_search) (anns := ca_X0_search_8) 1 xx0 pl0 rfl kX0_search qq_ok cx_X0_search_8 cc_X0_search_8
def ck_X0_start_0 : AK := (12, [.inr (.inl [40]), .inl fr, .inl fr, .inl fr, .inr (.inl [27])], [24, 40], false, [([fr, fr, fr], .inr (.inr 9), [])], [])
def cg_X0_start_0 : List (Nat × AK) := [(45, ck_X9_hasThing_0), (51, ck_X0_search_8)]
def ca_X0_start_0 : List (Nat × AA) := []
set_option maxRecDepth 100000 in
theorem cc_X0_start_0 : aChk QPl CF ck_X0_start_0 cg_X0_start_0 xxX0 mX0_start tX0_start ca_X0_start_0 [] 1 = true := by decide +kernel
theorem cx_X0_start_0 : ctsO QQ CF xxX0 cg_X0_start_0 := ctsO_cons rfl ct_X9_hasThing_0 (ctsO_cons rfl ct_X0_search_8 (ctsO_nil))
theorem ct_X0_start_0 : ctrO QQ CF ck_X0_start_0 mX0_start := chk_ok (Q := QQ) (QP := QPl) (C := CF) (c := ck_X0_start_0) (G := cg_X0_start_0) (X := xxX0) (M := mX0_start) (t := tX0_start) (anns := ca_X0_start_0) 1 xx0 pl0 rfl kX0_start qq_ok cx_X0_start_0 cc_X0_start_0
def ck_X11_over_0 : AK := (13, [.inr (.inl [0]), .inl fr, .inl fr, .inl fr, .inl fr], [24, 40], false, [([(.ofNat 0, .ofNat 7), (.ofNat 1, .ofNat 8), (.ofNat 0, .ofNat 9), (.ofNat 0, .ofNat 1)], .inl fr, []), ([fr, fr, fr, fr], .inl (.negSucc 0, .negSucc 0), [])], [])
def cg_X11_over_0 : List (Nat × AK) := [(265, ck_X9_hasThing_0), (120, ck_X11_within_16), (120, ck_X11_within_17), (120, ck_X11_within_18), (326, ck_X0_start_0)]
def ca_X11_over_0 : List (Nat × AA) := []
set_option maxRecDepth 100000 in
theorem cc_X11_over_0 : aChk QPl CF ck_X11_over_0 cg_X11_over_0 xxX11 mX11_over tX11_over ca_X11_over_0 [] 1 = true := by decide +kernel
theorem cx_X11_over_0 : ctsO QQ CF xxX11 cg_X11_over_0 := ctsO_cons rfl ct_X9_hasThing_0 (ctsO_cons rfl ct_X11_within_16 (ctsO_cons rfl ct_X11_within_17 (ctsO_cons rfl ct_X11_within_18 (ctsO_cons rfl ct_X0_start_0 (ctsO_nil)))))
theorem ct_X11_over_0 : ctrO QQ CF ck_X11_over_0 mX11_over := chk_ok (Q := QQ) (QP := QPl) (C := CF) (c := ck_X11_over_0) (G := cg_X11_over_0) (X := xxX11) (M := mX11_over) (t := tX11_over) (anns := ca_X11_over_0) 1 xx11 pl11 rfl kX11_over qq_ok cx_X11_over_0 cc_X11_over_0
def ck_X11_hoursOf_0 : AK := (3, [.inr (.inl [0]), .inl fr, .inl fr, .inl fr], [24], false, [([fr, fr, fr], .inl fr, [])], [])
def cg_X11_hoursOf_0 : List (Nat × AK) := [(336, ck_X2_shadow_0)]
def ca_X11_hoursOf_0 : List (Nat × AA) := [(6, [(.ofNat 0, .ofNat 0), fr, fr, fr, fr, (.ofNat 0, .ofNat 10)], [.inr (.inl [0]), .inl (1, .ofNat 0), .inl (2, .ofNat 0), .inl (3, .ofNat 0), .inl (4, .ofNat 0), .inl (5, .ofNat 0)], [], [], [(0, 4, 0), (0, 5, 0)], (.ofNat 10, [.ofNat 0, .ofNat 0, .ofNat 0, .ofNat 0, .ofNat 0, .negSucc 0]))]
set_option maxRecDepth 100000 in
theorem cc_X11_hoursOf_0 : aChk QPl CF ck_X11_hoursOf_0 cg_X11_hoursOf_0 xxX11 mX11_hoursOf tX11_hoursOf ca_X11_hoursOf_0 [] 11 = true := by decide +kernel
theorem cx_X11_hoursOf_0 : ctsO QQ CF xxX11 cg_X11_hoursOf_0 := ctsO_cons rfl ct_X2_shadow_0 (ctsO_nil)
theorem ct_X11_hoursOf_0 : ctrO QQ CF ck_X11_hoursOf_0 mX11_hoursOf := chk_ok (Q := QQ) (QP := QPl) (C := CF) (c := ck_X11_hoursOf_0) (G := cg_X11_hoursOf_0) (X := xxX11) (M := mX11_hoursOf) (t := tX11_hoursOf) (anns := ca_X11_hoursOf_0) 11 xx11 pl11 rfl kX11_hoursOf qq_ok cx_X11_hoursOf_0 cc_X11_hoursOf_0
def ck_X11_whose_0 : AK := (4, [.inr (.inl [0]), .inl fr, .inl fr, .inl fr], [24], false, [([fr, fr, fr], .inl (.negSucc 0, .negSucc 0), []), ([(.ofNat 0, .ofNat 5), (.ofNat 1, .ofNat 999), (.ofNat 0, .ofNat 999)], .inl fr, [])], [])
def cg_X11_whose_0 : List (Nat × AK) := [(120, ck_X11_within_1), (120, ck_X11_within_3), (120, ck_X11_within_12), (333, ck_X11_hoursOf_0)]
def ca_X11_whose_0 : List (Nat × AA) := [(39, [(.ofNat 0, .ofNat 0), (.ofNat 0, .ofNat 5), (.ofNat 1, .ofNat 999), (.ofNat 0, .ofNat 999), fr, (.ofNat 0, .ofNat 8)], [.inr (.inl [0]), .inl (1, .ofNat 0), .inl (2, .ofNat 0), .inl (3, .ofNat 0), .inl (4, .ofNat 0), .inl (5, .ofNat 0)], [], [], [(0, 4, 0), (0, 5, 0)], (.ofNat 8, [.ofNat 0, .ofNat 0, .ofNat 0, .ofNat 0, .ofNat 0, .negSucc 0]))]
set_option maxRecDepth 100000 in
theorem cc_X11_whose_0 : aChk QPl CF ck_X11_whose_0 cg_X11_whose_0 xxX11 mX11_whose tX11_whose ca_X11_whose_0 [] 9 = true := by decide +kernel
theorem cx_X11_whose_0 : ctsO QQ CF xxX11 cg_X11_whose_0 := ctsO_cons rfl ct_X11_within_1 (ctsO_cons rfl ct_X11_within_3 (ctsO_cons rfl ct_X11_within_12 (ctsO_cons rfl ct_X11_hoursOf_0 (ctsO_nil))))
theorem ct_X11_whose_0 : ctrO QQ CF ck_X11_whose_0 mX11_whose := chk_ok (Q := QQ) (QP := QPl) (C := CF) (c := ck_X11_whose_0) (G := cg_X11_whose_0) (X := xxX11) (M := mX11_whose) (t := tX11_whose) (anns := ca_X11_whose_0) 9 xx11 pl11 rfl kX11_whose qq_ok cx_X11_whose_0 cc_X11_whose_0
def ck_X11_at_0 : AK := (4, [.inr (.inl [0]), .inl fr, .inl fr, .inl fr], [24], false, [([(.ofNat 0, .ofNat 7), (.ofNat 1, .ofNat 999), (.ofNat 0, .ofNat 999)], .inl fr, []), ([fr, fr, fr], .inl (.negSucc 0, .negSucc 0), [])], [])
def cg_X11_at_0 : List (Nat × AK) := [(265, ck_X9_hasThing_0), (120, ck_X11_within_3), (120, ck_X11_within_12), (333, ck_X11_hoursOf_0)]
def ca_X11_at_0 : List (Nat × AA) := []
set_option maxRecDepth 100000 in
theorem cc_X11_at_0 : aChk QPl CF ck_X11_at_0 cg_X11_at_0 xxX11 mX11_at tX11_at ca_X11_at_0 [] 1 = true := by decide +kernel
theorem cx_X11_at_0 : ctsO QQ CF xxX11 cg_X11_at_0 := ctsO_cons rfl ct_X9_hasThing_0 (ctsO_cons rfl ct_X11_within_3 (ctsO_cons rfl ct_X11_within_12 (ctsO_cons rfl ct_X11_hoursOf_0 (ctsO_nil))))
theorem ct_X11_at_0 : ctrO QQ CF ck_X11_at_0 mX11_at := chk_ok (Q := QQ) (QP := QPl) (C := CF) (c := ck_X11_at_0) (G := cg_X11_at_0) (X := xxX11) (M := mX11_at) (t := tX11_at) (anns := ca_X11_at_0) 1 xx11 pl11 rfl kX11_at qq_ok cx_X11_at_0 cc_X11_at_0
def ck_J6_bitCount_0f7a4_0 : AK := (1, [.inl fr], [], false, [([fr], .inl (.ofNat 0, .ofNat 63), [])], [])
def cg_J6_bitCount_0f7a4_0 : List (Nat × AK) := []
def ca_J6_bitCount_0f7a4_0 : List (Nat × AA) := []
set_option maxRecDepth 100000 in
theorem cc_J6_bitCount_0f7a4_0 : aChk QPl CF ck_J6_bitCount_0f7a4_0 cg_J6_bitCount_0f7a4_0 xxJ6 mJ6_bitCount_0f7a4 tJ6_bitCount_0f7a4 ca_J6_bitCount_0f7a4_0 [] 1 = true := by decide +kernel
theorem cx_J6_bitCount_0f7a4_0 : ctsO QQ CF xxJ6 cg_J6_bitCount_0f7a4_0 := ctsO_nil
theorem ct_J6_bitCount_0f7a4_0 : ctrO QQ CF ck_J6_bitCount_0f7a4_0 mJ6_bitCount_0f7a4 := chk_ok (Q := QQ) (QP := QPl) (C := CF) (c := ck_J6_bitCount_0f7a4_0) (G := cg_J6_bitCount_0f7a4_0) (X := xxJ6) (M := mJ6_bitCount_0f7a4) (t := tJ6_bitCount_0f7a4) (anns := ca_J6_bitCount_0f7a4_0) 1 xxj6 plJ6 rfl kJ6_bitCount_0f7a4 qq_ok cx_J6_bitCount_0f7a4_0 cc_J6_bitCount_0f7a4_0
def ck_X10_shadowsOf_0 : AK := (4, [.inr (.inl [26]), .inl fr], [24], false, [([fr], .inl fr, [])], [])
def cg_X10_shadowsOf_0 : List (Nat × AK) := [(99, ck_X10_shadowOf_0)]
def ca_X10_shadowsOf_0 : List (Nat × AA) := [(4, [(.ofNat 0, .ofNat 0), fr, fr, (.ofNat 0, .ofNat 8)], [.inr (.inl [26]), .inl (1, .ofNat 0), .inl (2, .ofNat 0), .inl (3, .ofNat 0)], [], [], [(0, 2, 0), (0, 3, 0)], (.ofNat 8, [.ofNat 0, .ofNat 0, .ofNat 0, .negSucc 0]))]
set_option maxRecDepth 100000 in
theorem cc_X10_shadowsOf_0 : aChk QPl CF ck_X10_shadowsOf_0 cg_X10_shadowsOf_0 xxX10 mX10_shadowsOf tX10_shadowsOf ca_X10_shadowsOf_0 [] 9 = true := by decide +kernel
theorem cx_X10_shadowsOf_0 : ctsO QQ CF xxX10 cg_X10_shadowsOf_0 := ctsO_cons rfl ct_X10_shadowOf_0 (ctsO_nil)
theorem ct_X10_shadowsOf_0 : ctrO QQ CF ck_X10_shadowsOf_0 mX10_shadowsOf := chk_ok (Q := QQ) (QP := QPl) (C := CF) (c := ck_X10_shadowsOf_0) (G := cg_X10_shadowsOf_0) (X := xxX10) (M := mX10_shadowsOf) (t := tX10_shadowsOf) (anns := ca_X10_shadowsOf_0) 9 xx10 pl10 rfl kX10_shadowsOf qq_ok cx_X10_shadowsOf_0 cc_X10_shadowsOf_0
def ck_X11_leave_0 : AK := (5, [.inr (.inl [0]), .inl fr, .inl fr, .inl fr, .inl fr], [24], false, [([fr, fr, fr, fr], .inl (.negSucc 0, .negSucc 0), []), ([(.ofNat 0, .ofNat 9999), (.ofNat 0, .ofNat 9999), (.ofNat 0, .ofNat 9999), (.ofNat 0, .ofNat 9999)], .inl (.ofNat 1, .ofNat 15), [])], [])
def cg_X11_leave_0 : List (Nat × AK) := [(120, ck_X11_within_5), (340, ck_J6_bitCount_0f7a4_0), (345, ck_X10_shadowsOf_0)]
def ca_X11_leave_0 : List (Nat × AA) := [(50, [(.ofNat 0, .ofNat 0), (.ofNat 0, .ofNat 9999), (.ofNat 0, .ofNat 9999), (.ofNat 0, .ofNat 9999), (.ofNat 0, .ofNat 9999), (.ofNat 1, .ofNat 16)], [.inr (.inl [0]), .inl (1, .ofNat 0), .inl (2, .ofNat 0), .inl (3, .ofNat 0), .inl (4, .ofNat 0), .inl (5, .ofNat 0), .inr (.inr 0)], [], [], [(0, 5, 0)], (.ofNat 16, [.ofNat 0, .ofNat 0, .ofNat 0, .ofNat 0, .ofNat 0, .negSucc 0]))]
set_option maxRecDepth 100000 in
theorem cc_X11_leave_0 : aChk QPl CF ck_X11_leave_0 cg_X11_leave_0 xxX11 mX11_leave tX11_leave ca_X11_leave_0 [] 16 = true := by decide +kernel
theorem cx_X11_leave_0 : ctsO QQ CF xxX11 cg_X11_leave_0 := ctsO_cons rfl ct_X11_within_5 (ctsO_cons rfl ct_J6_bitCount_0f7a4_0 (ctsO_cons rfl ct_X10_shadowsOf_0 (ctsO_nil)))
theorem ct_X11_leave_0 : ctrO QQ CF ck_X11_leave_0 mX11_leave := chk_ok (Q := QQ) (QP := QPl) (C := CF) (c := ck_X11_leave_0) (G := cg_X11_leave_0) (X := xxX11) (M := mX11_leave) (t := tX11_leave) (anns := ca_X11_leave_0) 16 xx11 pl11 rfl kX11_leave qq_ok cx_X11_leave_0 cc_X11_leave_0
def ck_X11_within_19 : AK := (1, [.inl fr, .inl (.ofNat 1, .ofNat 1), .inl (.ofNat 4095, .ofNat 4095)], [], false, [([(.ofNat 1, .ofNat 4095), (.ofNat 1, .ofNat 1), (.ofNat 4095, .ofNat 4095)], .inl (.ofNat 1, .ofNat 1), []), ([fr, (.ofNat 1, .ofNat 1), (.ofNat 4095, .ofNat 4095)], .inl (.ofNat 0, .ofNat 0), [])], [])
def cg_X11_within_19 : List (Nat × AK) := []
def ca_X11_within_19 : List (Nat × AA) := []
set_option maxRecDepth 100000 in
theorem cc_X11_within_19 : aChk QPl CF ck_X11_within_19 cg_X11_within_19 xxX11 mX11_within tX11_within ca_X11_within_19 [] 1 = true := by decide +kernel
theorem cx_X11_within_19 : ctsO QQ CF xxX11 cg_X11_within_19 := ctsO_nil
theorem ct_X11_within_19 : ctrO QQ CF ck_X11_within_19 mX11_within := chk_ok (Q := QQ) (QP := QPl) (C := CF) (c := ck_X11_within_19) (G := cg_X11_within_19) (X := xxX11) (M := mX11_within) (t := tX11_within) (anns := ca_X11_within_19) 1 xx11 pl11 rfl kX11_within qq_ok cx_X11_within_19 cc_X11_within_19
def ck_X4_search_0 : AK := (1, [.inr (.inl [41]), .inl (.ofNat 6, .ofNat 6), .inl fr], [41, 46], false, [([(.ofNat 6, .ofNat 6), fr], .inr (.inr 9), [])], [])
def cg_X4_search_0 : List (Nat × AK) := []
def ca_X4_search_0 : List (Nat × AA) := []
set_option maxRecDepth 100000 in
theorem cc_X4_search_0 : aChk QPl CF ck_X4_search_0 cg_X4_search_0 xxX4 mX4_search tX4_search ca_X4_search_0 [] 1 = true := by decide +kernel
theorem cx_X4_search_0 : ctsO QQ CF xxX4 cg_X4_search_0 := ctsO_nil
theorem ct_X4_search_0 : ctrO QQ CF ck_X4_search_0 mX4_search := chk_ok (Q := QQ) (QP := QPl) (C := CF) (c := ck_X4_search_0) (G := cg_X4_search_0) (X := xxX4) (M := mX4_search) (t := tX4_search) (anns := ca_X4_search_0) 1 xx4 pl4 rfl kX4_search qq_ok cx_X4_search_0 cc_X4_search_0
def ck_X4_search_1 : AK := (2, [.inr (.inl [41]), .inl (.ofNat 5, .ofNat 5), .inl fr], [41, 43, 44, 45, 46], false, [([(.ofNat 5, .ofNat 5), fr], .inr (.inr 9), [])], [])
def cg_X4_search_1 : List (Nat × AK) := [(48, ck_X10_hasBale_0), (38, ck_X4_search_0)]
def ca_X4_search_1 : List (Nat × AA) := [(106, [(.ofNat 0, .ofNat 0), (.ofNat 5, .ofNat 5), fr, (.ofNat 0, .ofNat 11), fr, fr, (.ofNat 0, .ofNat 4)], [.inr (.inl [41]), .inl (1, .ofNat 0), .inl (2, .ofNat 0), .inl (3, .ofNat 0), .inl (4, .ofNat 0), .inl (5, .ofNat 0), .inl (6, .ofNat 0), .inr (.inr 0)], [], [(42, 5, 3, .ofNat 0)], [(0, 3, 0), (0, 4, 0), (0, 5, 0), (0, 6, 0)], (.ofNat 4, [.ofNat 0, .ofNat 0, .ofNat 0, .ofNat 0, .ofNat 0, .ofNat 0, .negSucc 0]))]
set_option maxRecDepth 100000 in
theorem cc_X4_search_1 : aChk QPl CF ck_X4_search_1 cg_X4_search_1 xxX4 mX4_search tX4_search ca_X4_search_1 [] 5 = true := by decide +kernel
theorem cx_X4_search_1 : ctsO QQ CF xxX4 cg_X4_search_1 := ctsO_cons rfl ct_X10_hasBale_0 (ctsO_cons rfl ct_X4_search_0 (ctsO_nil))
theorem ct_X4_search_1 : ctrO QQ CF ck_X4_search_1 mX4_search := chk_ok (Q := QQ) (QP := QPl) (C := CF) (c := ck_X4_search_1) (G := cg_X4_search_1) (X := xxX4) (M := mX4_search) (t := tX4_search) (anns := ca_X4_search_1) 5 xx4 pl4 rfl kX4_search qq_ok cx_X4_search_1 cc_X4_search_1
def ck_X4_search_2 : AK := (3, [.inr (.inl [41]), .inl (.ofNat 4, .ofNat 4), .inl fr], [41, 43, 44, 45, 46], false, [([(.ofNat 4, .ofNat 4), fr], .inr (.inr 9), [])], [])
def cg_X4_search_2 : List (Nat × AK) := [(48, ck_X10_hasBale_0), (38, ck_X4_search_1)]
def ca_X4_search_2 : List (Nat × AA) := [(106, [(.ofNat 0, .ofNat 0), (.ofNat 4, .ofNat 4), fr, (.ofNat 0, .ofNat 11), fr, fr, (.ofNat 0, .ofNat 4)], [.inr (.inl [41]), .inl (1, .ofNat 0), .inl (2, .ofNat 0), .inl (3, .ofNat 0), .inl (4, .ofNat 0), .inl (5, .ofNat 0), .inl (6, .ofNat 0), .inr (.inr 0)], [], [(42, 4, 3, .ofNat 0)], [(0, 3, 0), (0, 4, 0), (0, 5, 0), (0, 6, 0)], (.ofNat 4, [.ofNat 0, .ofNat 0, .ofNat 0, .ofNat 0, .ofNat 0, .ofNat 0, .negSucc 0]))]
set_option maxRecDepth 100000 in
theorem cc_X4_search_2 : aChk QPl CF ck_X4_search_2 cg_X4_search_2 xxX4 mX4_search tX4_search ca_X4_search_2 [] 5 = true := by decide +kernel
theorem cx_X4_search_2 : ctsO QQ CF xxX4 cg_X4_search_2 := ctsO_cons rfl ct_X10_hasBale_0 (ctsO_cons rfl ct_X4_search_1 (ctsO_nil))
theorem ct_X4_search_2 : ctrO QQ CF ck_X4_search_2 mX4_search := chk_ok (Q := QQ) (QP := QPl) (C := CF) (c := ck_X4_search_2) (G := cg_X4_search_2) (X := xxX4) (M := mX4_search) (t := tX4_search) (anns := ca_X4_search_2) 5 xx4 pl4 rfl kX4_search qq_ok cx_X4_search_2 cc_X4_search_2
def ck_X4_search_3 : AK := (4, [.inr (.inl [41]), .inl (.ofNat 3, .ofNat 3), .inl fr], [41, 43, 44, 45, 46], false, [([(.ofNat 3, .ofNat 3), fr], .inr (.inr 9), [])], [])
def cg_X4_search_3 : List (Nat × AK) := [(48, ck_X10_hasBale_0), (38, ck_X4_search_2)]
def ca_X4_search_3 : List (Nat × AA) := [(106, [(.ofNat 0, .ofNat 0), (.ofNat 3, .ofNat 3), fr, (.ofNat 0, .ofNat 11), fr, fr, (.ofNat 0, .ofNat 4)], [.inr (.inl [41]), .inl (1, .ofNat 0), .inl (2, .ofNat 0), .inl (3, .ofNat 0), .inl (4, .ofNat 0), .inl (5, .ofNat 0), .inl (6, .ofNat 0), .inr (.inr 0)], [], [(42, 3, 3, .ofNat 0)], [(0, 3, 0), (0, 4, 0), (0, 5, 0), (0, 6, 0)], (.ofNat 4, [.ofNat 0, .ofNat 0, .ofNat 0, .ofNat 0, .ofNat 0, .ofNat 0, .negSucc 0]))]
set_option maxRecDepth 100000 in
theorem cc_X4_search_3 : aChk QPl CF ck_X4_search_3 cg_X4_search_3 xxX4 mX4_search tX4_search ca_X4_search_3 [] 5 = true := by decide +kernel
theorem cx_X4_search_3 : ctsO QQ CF xxX4 cg_X4_search_3 := ctsO_cons rfl ct_X10_hasBale_0 (ctsO_cons rfl ct_X4_search_2 (ctsO_nil))
theorem ct_X4_search_3 : ctrO QQ CF ck_X4_search_3 mX4_search := chk_ok (Q := QQ) (QP := QPl) (C := CF) (c := ck_X4_search_3) (G := cg_X4_search_3) (X := xxX4) (M := mX4_search) (t := tX4_search) (anns := ca_X4_search_3) 5 xx4 pl4 rfl kX4_search qq_ok cx_X4_search_3 cc_X4_search_3
def ck_X4_search_4 : AK := (5, [.inr (.inl [41]), .inl (.ofNat 2, .ofNat 2), .inl fr], [41, 43, 44, 45, 46], false, [([(.ofNat 2, .ofNat 2), fr], .inr (.inr 9), [])], [])
def cg_X4_search_4 : List (Nat × AK) := [(48, ck_X10_hasBale_0), (38, ck_X4_search_3)]
def ca_X4_search_4 : List (Nat × AA) := [(106, [(.ofNat 0, .ofNat 0), (.ofNat 2, .ofNat 2), fr, (.ofNat 0, .ofNat 11), fr, fr, (.ofNat 0, .ofNat 4)], [.inr (.inl [41]), .inl (1, .ofNat 0), .inl (2, .ofNat 0), .inl (3, .ofNat 0), .inl (4, .ofNat 0), .inl (5, .ofNat 0), .inl (6, .ofNat 0), .inr (.inr 0)], [], [(42, 2, 3, .ofNat 0)], [(0, 3, 0), (0, 4, 0), (0, 5, 0), (0, 6, 0)], (.ofNat 4, [.ofNat 0, .ofNat 0, .ofNat 0, .ofNat 0, .ofNat 0, .ofNat 0, .negSucc 0]))]
set_option maxRecDepth 100000 in
theorem cc_X4_search_4 : aChk QPl CF ck_X4_search_4 cg_X4_search_4 xxX4 mX4_search tX4_search ca_X4_search_4 [] 5 = true := by decide +kernel
theorem cx_X4_search_4 : ctsO QQ CF xxX4 cg_X4_search_4 := ctsO_cons rfl ct_X10_hasBale_0 (ctsO_cons rfl ct_X4_search_3 (ctsO_nil))
theorem ct_X4_search_4 : ctrO QQ CF ck_X4_search_4 mX4_search := chk_ok (Q := QQ) (QP := QPl) (C := CF) (c := ck_X4_search_4) (G := cg_X4_search_4) (X := xxX4) (M := mX4_search) (t := tX4_search) (anns := ca_X4_search_4) 5 xx4 pl4 rfl kX4_search qq_ok cx_X4_search_4 cc_X4_search_4
def ck_X4_search_5 : AK := (6, [.inr (.inl [41]), .inl (.ofNat 1, .ofNat 1), .inl fr], [41, 43, 44, 45, 46], false, [([(.ofNat 1, .ofNat 1), fr], .inr (.inr 9), [])], [])
def cg_X4_search_5 : List (Nat × AK) := [(48, ck_X10_hasBale_0), (38, ck_X4_search_4)]
def ca_X4_search_5 : List (Nat × AA) := [(106, [(.ofNat 0, .ofNat 0), (.ofNat 1, .ofNat 1), fr, (.ofNat 0, .ofNat 11), fr, fr, (.ofNat 0, .ofNat 4)], [.inr (.inl [41]), .inl (1, .ofNat 0), .inl (2, .ofNat 0), .inl (3, .ofNat 0), .inl (4, .ofNat 0), .inl (5, .ofNat 0), .inl (6, .ofNat 0), .inr (.inr 0)], [], [(42, 1, 3, .ofNat 0)], [(0, 3, 0), (0, 4, 0), (0, 5, 0), (0, 6, 0)], (.ofNat 4, [.ofNat 0, .ofNat 0, .ofNat 0, .ofNat 0, .ofNat 0, .ofNat 0, .negSucc 0]))]
set_option maxRecDepth 100000 in
theorem cc_X4_search_5 : aChk QPl CF ck_X4_search_5 cg_X4_search_5 xxX4 mX4_search tX4_search ca_X4_search_5 [] 5 = true := by decide +kernel
theorem cx_X4_search_5 : ctsO QQ CF xxX4 cg_X4_search_5 := ctsO_cons rfl ct_X10_hasBale_0 (ctsO_cons rfl ct_X4_search_4 (ctsO_nil))
theorem ct_X4_search_5 : ctrO QQ CF ck_X4_search_5 mX4_search := chk_ok (Q := QQ) (QP := QPl) (C := CF) (c := ck_X4_search_5) (G := cg_X4_search_5) (X := xxX4) (M := mX4_search) (t := tX4_search) (anns := ca_X4_search_5) 5 xx4 pl4 rfl kX4_search qq_ok cx_X4_search_5 cc_X4_search_5
def ck_X4_search_6 : AK := (7, [.inr (.inl [41]), .inl (.ofNat 0, .ofNat 0), .inl fr], [41, 43, 44, 45, 46], false, [([(.ofNat 0, .ofNat 0), fr], .inr (.inr 9), [])], [])
def cg_X4_search_6 : List (Nat × AK) := [(48, ck_X10_hasBale_0), (38, ck_X4_search_5)]
def ca_X4_search_6 : List (Nat × AA) := [(106, [(.ofNat 0, .ofNat 0), (.ofNat 0, .ofNat 0), fr, (.ofNat 0, .ofNat 11), fr, fr, (.ofNat 0, .ofNat 4)], [.inr (.inl [41]), .inl (1, .ofNat 0), .inl (2, .ofNat 0), .inl (3, .ofNat 0), .inl (4, .ofNat 0), .inl (5, .ofNat 0), .inl (6, .ofNat 0), .inr (.inr 0)], [], [(42, 0, 3, .ofNat 0)], [(0, 3, 0), (0, 4, 0), (0, 5, 0), (0, 6, 0)], (.ofNat 4, [.ofNat 0, .ofNat 0, .ofNat 0, .ofNat 0, .ofNat 0, .ofNat 0, .negSucc 0]))]
set_option maxRecDepth 100000 in
theorem cc_X4_search_6 : aChk QPl CF ck_X4_search_6 cg_X4_search_6 xxX4 mX4_search tX4_search ca_X4_search_6 [] 5 = true := by decide +kernel
theorem cx_X4_search_6 : ctsO QQ CF xxX4 cg_X4_search_6 := ctsO_cons rfl ct_X10_hasBale_0 (ctsO_cons rfl ct_X4_search_5 (ctsO_nil))
theorem ct_X4_search_6 : ctrO QQ CF ck_X4_search_6 mX4_search := chk_ok (Q := QQ) (QP := QPl) (C := CF) (c := ck_X4_search_6) (G := cg_X4_search_6) (X := xxX4) (M := mX4_search) (t := tX4_search) (anns := ca_X4_search_6) 5 xx4 pl4 rfl kX4_search qq_ok cx_X4_search_6 cc_X4_search_6
def ck_X4_start_0 : AK := (8, [.inr (.inl [41]), .inl fr], [41, 42, 43, 44, 45, 46], false, [([fr], .inl (.ofNat 1, .ofNat 1), []), ([fr], .inl (.ofNat 0, .ofNat 0), [])], [])
def cg_X4_start_0 : List (Nat × AK) := [(38, ck_X4_search_6)]
def ca_X4_start_0 : List (Nat × AA) := [(7, [(.ofNat 0, .ofNat 0), fr, (.ofNat 0, .ofNat 12), (.ofNat 0, .ofNat 6)], [.inr (.inl [41]), .inl (1, .ofNat 0), .inl (2, .ofNat 0)], [], [(41, 2, 3, .ofNat 0)], [(0, 2, 0), (2, 41, 2)], (.ofNat 17, [.ofNat 0, .ofNat 0, .negSucc 0, .ofNat 0])), (59, [(.ofNat 0, .ofNat 0), fr, (.ofNat 0, .ofNat 4), (.ofNat 0, .ofNat 6)], [.inr (.inl [41]), .inl (1, .ofNat 0), .inl (2, .ofNat 0)], [], [(41, 2, 3, .ofNat 0)], [(0, 2, 0), (2, 41, 2)], (.ofNat 4, [.ofNat 0, .ofNat 0, .negSucc 0, .ofNat 0]))]
set_option maxRecDepth 100000 in
theorem cc_X4_start_0 : aChk QPl CF ck_X4_start_0 cg_X4_start_0 xxX4 mX4_start tX4_start ca_X4_start_0 [] 18 = true := by decide +kernel
theorem cx_X4_start_0 : ctsO QQ CF xxX4 cg_X4_start_0 := ctsO_cons rfl ct_X4_search_6 (ctsO_nil)
theorem ct_X4_start_0 : ctrO QQ CF ck_X4_start_0 mX4_start := chk_ok (Q := QQ) (QP := QPl) (C := CF) (c := ck_X4_start_0) (G := cg_X4_start_0) (X := xxX4) (M := mX4_start) (t := tX4_start) (anns := ca_X4_start_0) 18 xx4 pl4 rfl kX4_start qq_ok cx_X4_start_0 cc_X4_start_0
def ck_X11_within_20 : AK := (1, [.inl fr, .inl (.negSucc 0, .negSucc 0), .inl (.negSucc 0, .ofNat 62)], [], false, [([(.negSucc 0, .ofNat 62), (.negSucc 0, .negSucc 0), (.negSucc 0, .ofNat 62)], .inl (.ofNat 1, .ofNat 1), []), ([fr, (.negSucc 0, .negSucc 0), (.negSucc 0, .ofNat 62)], .inl (.ofNat 0, .ofNat 0), [])], [])
def cg_X11_within_20 : List (Nat × AK) := []
def ca_X11_within_20 : List (Nat × AA) := []
set_option maxRecDepth 100000 in
theorem cc_X11_within_20 : aChk QPl CF ck_X11_within_20 cg_X11_within_20 xxX11 mX11_within tX11_within ca_X11_within_20 [] 1 = true := by decide +kernel
theorem cx_X11_within_20 : ctsO QQ CF xxX11 cg_X11_within_20 := ctsO_nil
theorem ct_X11_within_20 : ctrO QQ CF ck_X11_within_20 mX11_within := chk_ok (Q := QQ) (QP := QPl) (C := CF) (c := ck_X11_within_20) (G := cg_X11_within_20) (X := xxX11) (M := mX11_within) (t := tX11_within) (anns := ca_X11_within_20) 1 xx11 pl11 rfl kX11_within qq_ok cx_X11_within_20 cc_X11_within_20
def ck_X4_barnAt_0 : AK := (1, [.inr (.inl [41]), .inl fr], [], false, [([(.ofNat 0, .ofNat 5)], .inl fr, []), ([fr], .inl (.negSucc 0, .negSucc 0), [])], [])
def cg_X4_barnAt_0 : List (Nat × AK) := []
def ca_X4_barnAt_0 : List (Nat × AA) := []
set_option maxRecDepth 100000 in
theorem cc_X4_barnAt_0 : aChk QPl CF ck_X4_barnAt_0 cg_X4_barnAt_0 xxX4 mX4_barnAt tX4_barnAt ca_X4_barnAt_0 [] 1 = true := by decide +kernel
theorem cx_X4_barnAt_0 : ctsO QQ CF xxX4 cg_X4_barnAt_0 := ctsO_nil
theorem ct_X4_barnAt_0 : ctrO QQ CF ck_X4_barnAt_0 mX4_barnAt := chk_ok (Q := QQ) (QP := QPl) (C := CF) (c := ck_X4_barnAt_0) (G := cg_X4_barnAt_0) (X := xxX4) (M := mX4_barnAt) (t := tX4_barnAt) (anns := ca_X4_barnAt_0) 1 xx4 pl4 rfl kX4_barnAt qq_ok cx_X4_barnAt_0 cc_X4_barnAt_0
def ck_X11_packed_0 : AK := (9, [.inr (.inl [0]), .inl fr, .inl fr], [41, 42, 43, 44, 45, 46], false, [([fr, fr], .inl (.negSucc 0, .negSucc 0), []), ([(.ofNat 1, .ofNat 4095), (.negSucc 0, .ofNat 5)], .inl fr, [])], [])
def cg_X11_packed_0 : List (Nat × AK) := [(120, ck_X11_within_19), (340, ck_J6_bitCount_0f7a4_0), (292, ck_X10_hasBale_0), (348, ck_X4_start_0), (120, ck_X11_within_20), (351, ck_X4_barnAt_0)]
def ca_X11_packed_0 : List (Nat × AA) := [(24, [(.ofNat 0, .ofNat 0), (.ofNat 1, .ofNat 4095), fr, (.ofNat 0, .ofNat 12)], [.inr (.inl [0]), .inl (1, .ofNat 0), .inl (2, .ofNat 0), .inl (3, .ofNat 0)], [], [], [(0, 3, 0)], (.ofNat 12, [.ofNat 0, .ofNat 0, .ofNat 0, .negSucc 0]))]
set_option maxRecDepth 100000 in
theorem cc_X11_packed_0 : aChk QPl CF ck_X11_packed_0 cg_X11_packed_0 xxX11 mX11_packed tX11_packed ca_X11_packed_0 [] 13 = true := by decide +kernel
theorem cx_X11_packed_0 : ctsO QQ CF xxX11 cg_X11_packed_0 := ctsO_cons rfl ct_X11_within_19 (ctsO_cons rfl ct_J6_bitCount_0f7a4_0 (ctsO_cons rfl ct_X10_hasBale_0 (ctsO_cons rfl ct_X4_start_0 (ctsO_cons rfl ct_X11_within_20 (ctsO_cons rfl ct_X4_barnAt_0 (ctsO_nil))))))
theorem ct_X11_packed_0 : ctrO QQ CF ck_X11_packed_0 mX11_packed := chk_ok (Q := QQ) (QP := QPl) (C := CF) (c := ck_X11_packed_0) (G := cg_X11_packed_0) (X := xxX11) (M := mX11_packed) (t := tX11_packed) (anns := ca_X11_packed_0) 13 xx11 pl11 rfl kX11_packed qq_ok cx_X11_packed_0 cc_X11_packed_0
def ck_X10_sellsOf_1 : AK := (3, [.inr (.inl [28]), .inl fr], [24], false, [([fr], .inl (.ofNat 0, .ofNat 0), []), ([(.ofNat 0, .ofNat 11)], .inl fr, [])], [])
def cg_X10_sellsOf_1 : List (Nat × AK) := [(63, ck_X10_hasBale_1), (69, ck_X2_describe_0), (76, ck_X2_price_0)]
def ca_X10_sellsOf_1 : List (Nat × AA) := []
set_option maxRecDepth 100000 in
theorem cc_X10_sellsOf_1 : aChk QPl CF ck_X10_sellsOf_1 cg_X10_sellsOf_1 xxX10 mX10_sellsOf tX10_sellsOf ca_X10_sellsOf_1 [] 1 = true := by decide +kernel
theorem cx_X10_sellsOf_1 : ctsO QQ CF xxX10 cg_X10_sellsOf_1 := ctsO_cons rfl ct_X10_hasBale_1 (ctsO_cons rfl ct_X2_describe_0 (ctsO_cons rfl ct_X2_price_0 (ctsO_nil)))
theorem ct_X10_sellsOf_1 : ctrO QQ CF ck_X10_sellsOf_1 mX10_sellsOf := chk_ok (Q := QQ) (QP := QPl) (C := CF) (c := ck_X10_sellsOf_1) (G := cg_X10_sellsOf_1) (X := xxX10) (M := mX10_sellsOf) (t := tX10_sellsOf) (anns := ca_X10_sellsOf_1) 1 xx10 pl10 rfl kX10_sellsOf qq_ok cx_X10_sellsOf_1 cc_X10_sellsOf_1
def ck_X11_when_0 : AK := (5, [.inr (.inl [0]), .inl fr, .inl fr, .inl fr], [24, 29], false, [([fr, fr, fr], .inl (.negSucc 0, .negSucc 0), []), ([(.ofNat 0, .ofNat 11), (.ofNat 0, .ofNat 60), (.ofNat 0, .ofNat 1)], .inl (.ofNat 0, .ofNat 2147483647), []), ([(.ofNat 0, .ofNat 11), (.ofNat 0, .ofNat 60), (.ofNat 0, .ofNat 1)], .inl (.negSucc 0, .ofNat 2147483647), [])], [])
def cg_X11_when_0 : List (Nat × AK) := [(292, ck_X10_hasBale_0), (120, ck_X11_within_15), (120, ck_X11_within_18), (304, ck_X10_takeFrom_0), (292, ck_X10_hasBale_1), (298, ck_X10_sellsOf_1), (176, ck_X10_passHour_1)]
def ca_X11_when_0 : List (Nat × AA) := [(55, [(.ofNat 0, .ofNat 0), (.ofNat 0, .ofNat 11), (.ofNat 0, .ofNat 60), (.ofNat 0, .ofNat 1), (.negSucc 0, .ofNat 2147483647), (.negSucc 0, .ofNat 60), (.ofNat 0, .ofNat 63)], [.inr (.inl [0]), .inl (1, .ofNat 0), .inl (2, .ofNat 0), .inl (3, .ofNat 0), .inl (4, .ofNat 0), .inl (5, .ofNat 0), .inl (6, .ofNat 0), .inr (.inr 0)], [], [], [(0, 4, 0), (0, 5, 0), (0, 6, 0)], (.ofNat 63, [.ofNat 0, .ofNat 0, .ofNat 0, .ofNat 0, .ofNat 0, .ofNat 0, .negSucc 0]))]
set_option maxRecDepth 100000 in
theorem cc_X11_when_0 : aChk QPl CF ck_X11_when_0 cg_X11_when_0 xxX11 mX11_when tX11_when ca_X11_when_0 [] 64 = true := by decide +kernel
theorem cx_X11_when_0 : ctsO QQ CF xxX11 cg_X11_when_0 := ctsO_cons rfl ct_X10_hasBale_0 (ctsO_cons rfl ct_X11_within_15 (ctsO_cons rfl ct_X11_within_18 (ctsO_cons rfl ct_X10_takeFrom_0 (ctsO_cons rfl ct_X10_hasBale_1 (ctsO_cons rfl ct_X10_sellsOf_1 (ctsO_cons rfl ct_X10_passHour_1 (ctsO_nil)))))))
theorem ct_X11_when_0 : ctrO QQ CF ck_X11_when_0 mX11_when := chk_ok (Q := QQ) (QP := QPl) (C := CF) (c := ck_X11_when_0) (G := cg_X11_when_0) (X := xxX11) (M := mX11_when) (t := tX11_when) (anns := ca_X11_when_0) 64 xx11 pl11 rfl kX11_when qq_ok cx_X11_when_0 cc_X11_when_0
def ck_X11_within_21 : AK := (1, [.inl fr, .inl (.ofNat 1, .ofNat 1), .inl (.ofNat 9, .ofNat 9)], [], false, [([(.ofNat 1, .ofNat 9), (.ofNat 1, .ofNat 1), (.ofNat 9, .ofNat 9)], .inl (.ofNat 1, .ofNat 1), []), ([fr, (.ofNat 1, .ofNat 1), (.ofNat 9, .ofNat 9)], .inl (.ofNat 0, .ofNat 0), [])], [])
def cg_X11_within_21 : List (Nat × AK) := []
def ca_X11_within_21 : List (Nat × AA) := []
set_option maxRecDepth 100000 in
theorem cc_X11_within_21 : aChk QPl CF ck_X11_within_21 cg_X11_within_21 xxX11 mX11_within tX11_within ca_X11_within_21 [] 1 = true := by decide +kernel
theorem cx_X11_within_21 : ctsO QQ CF xxX11 cg_X11_within_21 := ctsO_nil
theorem ct_X11_within_21 : ctrO QQ CF ck_X11_within_21 mX11_within := chk_ok (Q := QQ) (QP := QPl) (C := CF) (c := ck_X11_within_21) (G := cg_X11_within_21) (X := xxX11) (M := mX11_within) (t := tX11_within) (anns := ca_X11_within_21) 1 xx11 pl11 rfl kX11_within qq_ok cx_X11_within_21 cc_X11_within_21
def ck_X11_hail_0 : AK := (2, [.inr (.inl [0]), .inl fr, .inl fr, .inl (.ofNat 0, .ofNat 1)], [], false, [([fr, fr, (.ofNat 0, .ofNat 1)], .inl (.negSucc 0, .negSucc 0), []), ([(.ofNat 1, .ofNat 9), (.ofNat 0, .ofNat 9), (.ofNat 0, .ofNat 1)], .inl fr, [])], [])
def cg_X11_hail_0 : List (Nat × AK) := [(120, ck_X11_within_21), (120, ck_X11_within_17)]
def ca_X11_hail_0 : List (Nat × AA) := [(31, [(.ofNat 0, .ofNat 0), (.ofNat 1, .ofNat 9), (.ofNat 0, .ofNat 9), (.ofNat 0, .ofNat 1), fr, fr, (.ofNat 0, .ofNat 9)], [.inr (.inl [0]), .inl (1, .ofNat 0), .inl (2, .ofNat 0), .inl (3, .ofNat 0), .inl (4, .ofNat 0), .inl (5, .ofNat 0), .inl (6, .ofNat 0), .inr (.inr 0), .inr (.inr 0)], [], [], [(0, 4, 0), (0, 5, 0), (0, 6, 0)], (.ofNat 30, [.ofNat 0, .ofNat 0, .ofNat 0, .ofNat 0, .ofNat 0, .ofNat 0, .negSucc 0])), (64, [(.ofNat 0, .ofNat 0), (.ofNat 1, .ofNat 9), (.ofNat 0, .ofNat 9), (.ofNat 0, .ofNat 1), fr, fr, fr, fr, (.ofNat 0, .ofNat 10)], [.inr (.inl [0]), .inl (1, .ofNat 0), .inl (2, .ofNat 0), .inl (3, .ofNat 0), .inl (4, .ofNat 0), .inl (5, .ofNat 0), .inl (6, .ofNat 0), .inl (7, .ofNat 0), .inl (8, .ofNat 0)], [], [], [(0, 4, 0), (0, 5, 0), (0, 6, 0), (0, 7, 0), (0, 8, 0)], (.ofNat 20, [.ofNat 0, .ofNat 0, .ofNat 0, .ofNat 0, .ofNat 0, .ofNat 0, .ofNat 0, .ofNat 0, .negSucc 0])), (115, [(.ofNat 0, .ofNat 0), (.ofNat 1, .ofNat 9), (.ofNat 0, .ofNat 9), (.ofNat 0, .ofNat 1), fr, fr, fr, fr, (.ofNat 0, .ofNat 9)], [.inr (.inl [0]), .inl (1, .ofNat 0), .inl (2, .ofNat 0), .inl (3, .ofNat 0), .inl (4, .ofNat 0), .inl (5, .ofNat 0), .inl (6, .ofNat 0), .inl (7, .ofNat 0), .inl (8, .ofNat 0)], [], [], [(0, 4, 0), (0, 5, 0), (0, 6, 0), (0, 7, 0), (0, 8, 0)], (.ofNat 9, [.ofNat 0, .ofNat 0, .ofNat 0, .ofNat 0, .ofNat 0, .ofNat 0, .ofNat 0, .ofNat 0, .negSucc 0]))]
set_option maxRecDepth 100000 in
theorem cc_X11_hail_0 : aChk QPl CF ck_X11_hail_0 cg_X11_hail_0 xxX11 mX11_hail tX11_hail ca_X11_hail_0 [] 31 = true := by decide +kernel
theorem cx_X11_hail_0 : ctsO QQ CF xxX11 cg_X11_hail_0 := ctsO_cons rfl ct_X11_within_21 (ctsO_cons rfl ct_X11_within_17 (ctsO_nil))
theorem ct_X11_hail_0 : ctrO QQ CF ck_X11_hail_0 mX11_hail := chk_ok (Q := QQ) (QP := QPl) (C := CF) (c := ck_X11_hail_0) (G := cg_X11_hail_0) (X := xxX11) (M := mX11_hail) (t := tX11_hail) (anns := ca_X11_hail_0) 31 xx11 pl11 rfl kX11_hail qq_ok cx_X11_hail_0 cc_X11_hail_0
