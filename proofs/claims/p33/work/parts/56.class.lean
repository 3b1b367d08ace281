def ck_X11_within_0 : AK := (1, [.inl fr, .inl (.ofNat 1, .ofNat 1), .inl (.ofNat 99, .ofNat 99)], [], false, [([(.ofNat 1, .ofNat 99), (.ofNat 1, .ofNat 1), (.ofNat 99, .ofNat 99)], .inl (.ofNat 1, .ofNat 1), []), ([fr, (.ofNat 1, .ofNat 1), (.ofNat 99, .ofNat 99)], .inl (.ofNat 0, .ofNat 0), [])], [])
def cg_X11_within_0 : List (Nat × AK) := []
def ca_X11_within_0 : List (Nat × AA) := []
set_option maxRecDepth 100000 in
theorem cc_X11_within_0 : aChk QPl CF ck_X11_within_0 cg_X11_within_0 xxX11 mX11_within tX11_within ca_X11_within_0 [] 1 = true := by decide +kernel
theorem cx_X11_within_0 : ctsO QQ CF xxX11 cg_X11_within_0 := ctsO_nil
theorem ct_X11_within_0 : ctrO QQ CF ck_X11_within_0 mX11_within := chk_ok (Q := QQ) (QP := QPl) (C := CF) (c := ck_X11_within_0) (G := cg_X11_within_0) (X := xxX11) (M := mX11_within) (t := tX11_within) (anns := ca_X11_within_0) 1 xx11 pl11 rfl kX11_within qq_ok cx_X11_within_0 cc_X11_within_0
def ck_X11_within_1 : AK := (1, [.inl fr, .inl (.ofNat 0, .ofNat 0), .inl (.ofNat 5, .ofNat 5)], [], false, [([(.ofNat 0, .ofNat 5), (.ofNat 0, .ofNat 0), (.ofNat 5, .ofNat 5)], .inl (.ofNat 1, .ofNat 1), []), ([fr, (.ofNat 0, .ofNat 0), (.ofNat 5, .ofNat 5)], .inl (.ofNat 0, .ofNat 0), [])], [])
def cg_X11_within_1 : List (Nat × AK) := []
def ca_X11_within_1 : List (Nat × AA) := []
set_option maxRecDepth 100000 in
theorem cc_X11_within_1 : aChk QPl CF ck_X11_within_1 cg_X11_within_1 xxX11 mX11_within tX11_within ca_X11_within_1 [] 1 = true := by decide +kernel
theorem cx_X11_within_1 : ctsO QQ CF xxX11 cg_X11_within_1 := ctsO_nil
theorem ct_X11_within_1 : ctrO QQ CF ck_X11_within_1 mX11_within := chk_ok (Q := QQ) (QP := QPl) (C := CF) (c := ck_X11_within_1) (G := cg_X11_within_1) (X := xxX11) (M := mX11_within) (t := tX11_within) (anns := ca_X11_within_1) 1 xx11 pl11 rfl kX11_within qq_ok cx_X11_within_1 cc_X11_within_1
def ck_X11_within_2 : AK := (1, [.inl fr, .inl (.ofNat 0, .ofNat 0), .inl (.ofNat 4, .ofNat 4)], [], false, [([(.ofNat 0, .ofNat 4), (.ofNat 0, .ofNat 0), (.ofNat 4, .ofNat 4)], .inl (.ofNat 1, .ofNat 1), []), ([fr, (.ofNat 0, .ofNat 0), (.ofNat 4, .ofNat 4)], .inl (.ofNat 0, .ofNat 0), [])], [])
def cg_X11_within_2 : List (Nat × AK) := []
def ca_X11_within_2 : List (Nat × AA) := []
set_option maxRecDepth 100000 in
theorem cc_X11_within_2 : aChk QPl CF ck_X11_within_2 cg_X11_within_2 xxX11 mX11_within tX11_within ca_X11_within_2 [] 1 = true := by decide +kernel
theorem cx_X11_within_2 : ctsO QQ CF xxX11 cg_X11_within_2 := ctsO_nil
theorem ct_X11_within_2 : ctrO QQ CF ck_X11_within_2 mX11_within := chk_ok (Q := QQ) (QP := QPl) (C := CF) (c := ck_X11_within_2) (G := cg_X11_within_2) (X := xxX11) (M := mX11_within) (t := tX11_within) (anns := ca_X11_within_2) 1 xx11 pl11 rfl kX11_within qq_ok cx_X11_within_2 cc_X11_within_2
def ck_X9_addThing_0 : AK := (1, [.inr (.inl [12]), .inl fr, .inl fr, .inl fr], [12, 13, 14, 15], false, [([fr, fr, fr], .inl (.negSucc 0, .negSucc 0), []), ([fr, fr, fr], .inl (.ofNat 0, .ofNat 7), [])], [])
def cg_X9_addThing_0 : List (Nat × AK) := []
def ca_X9_addThing_0 : List (Nat × AA) := []
set_option maxRecDepth 100000 in
theorem cc_X9_addThing_0 : aChk QPl CF ck_X9_addThing_0 cg_X9_addThing_0 xxX9 mX9_addThing tX9_addThing ca_X9_addThing_0 [] 1 = true := by decide +kernel
theorem cx_X9_addThing_0 : ctsO QQ CF xxX9 cg_X9_addThing_0 := ctsO_nil
theorem ct_X9_addThing_0 : ctrO QQ CF ck_X9_addThing_0 mX9_addThing := chk_ok (Q := QQ) (QP := QPl) (C := CF) (c := ck_X9_addThing_0) (G := cg_X9_addThing_0) (X := xxX9) (M := mX9_addThing) (t := tX9_addThing) (anns := ca_X9_addThing_0) 1 xx9 pl9 rfl kX9_addThing qq_ok cx_X9_addThing_0 cc_X9_addThing_0
def ck_X11_thing_0 : AK := (2, [.inr (.inl [0]), .inl fr, .inl fr, .inl fr], [12, 13, 14, 15], false, [([fr, fr, fr], .inl (.negSucc 0, .negSucc 0), []), ([(.ofNat 1, .ofNat 99), (.ofNat 0, .ofNat 5), (.ofNat 0, .ofNat 4)], .inl (.ofNat 0, .ofNat 7), [])], [])
def cg_X11_thing_0 : List (Nat × AK) := [(120, ck_X11_within_0), (120, ck_X11_within_1), (120, ck_X11_within_2), (124, ck_X9_addThing_0)]
def ca_X11_thing_0 : List (Nat × AA) := []
set_option maxRecDepth 100000 in
theorem cc_X11_thing_0 : aChk QPl CF ck_X11_thing_0 cg_X11_thing_0 xxX11 mX11_thing tX11_thing ca_X11_thing_0 [] 1 = true := by decide +kernel
theorem cx_X11_thing_0 : ctsO QQ CF xxX11 cg_X11_thing_0 := ctsO_cons rfl ct_X11_within_0 (ctsO_cons rfl ct_X11_within_1 (ctsO_cons rfl ct_X11_within_2 (ctsO_cons rfl ct_X9_addThing_0 (ctsO_nil))))
theorem ct_X11_thing_0 : ctrO QQ CF ck_X11_thing_0 mX11_thing := chk_ok (Q := QQ) (QP := QPl) (C := CF) (c := ck_X11_thing_0) (G := cg_X11_thing_0) (X := xxX11) (M := mX11_thing) (t := tX11_thing) (anns := ca_X11_thing_0) 1 xx11 pl11 rfl kX11_thing qq_ok cx_X11_thing_0 cc_X11_thing_0
def ck_X9_addReaper_0 : AK := (1, [.inr (.inl [12]), .inl fr], [12, 16], false, [([fr], .inl (.negSucc 0, .negSucc 0), []), ([fr], .inl (.ofNat 0, .ofNat 3), [])], [])
def cg_X9_addReaper_0 : List (Nat × AK) := []
def ca_X9_addReaper_0 : List (Nat × AA) := []
set_option maxRecDepth 100000 in
theorem cc_X9_addReaper_0 : aChk QPl CF ck_X9_addReaper_0 cg_X9_addReaper_0 xxX9 mX9_addReaper tX9_addReaper ca_X9_addReaper_0 [] 1 = true := by decide +kernel
theorem cx_X9_addReaper_0 : ctsO QQ CF xxX9 cg_X9_addReaper_0 := ctsO_nil
theorem ct_X9_addReaper_0 : ctrO QQ CF ck_X9_addReaper_0 mX9_addReaper := chk_ok (Q := QQ) (QP := QPl) (C := CF) (c := ck_X9_addReaper_0) (G := cg_X9_addReaper_0) (X := xxX9) (M := mX9_addReaper) (t := tX9_addReaper) (anns := ca_X9_addReaper_0) 1 xx9 pl9 rfl kX9_addReaper qq_ok cx_X9_addReaper_0 cc_X9_addReaper_0
def ck_X11_reaper_0 : AK := (2, [.inr (.inl [0]), .inl fr], [12, 16], false, [([fr], .inl (.negSucc 0, .negSucc 0), []), ([(.ofNat 1, .ofNat 99)], .inl (.ofNat 0, .ofNat 3), [])], [])
def cg_X11_reaper_0 : List (Nat × AK) := [(120, ck_X11_within_0), (128, ck_X9_addReaper_0)]
def ca_X11_reaper_0 : List (Nat × AA) := []
set_option maxRecDepth 100000 in
theorem cc_X11_reaper_0 : aChk QPl CF ck_X11_reaper_0 cg_X11_reaper_0 xxX11 mX11_reaper tX11_reaper ca_X11_reaper_0 [] 1 = true := by decide +kernel
theorem cx_X11_reaper_0 : ctsO QQ CF xxX11 cg_X11_reaper_0 := ctsO_cons rfl ct_X11_within_0 (ctsO_cons rfl ct_X9_addReaper_0 (ctsO_nil))
theorem ct_X11_reaper_0 : ctrO QQ CF ck_X11_reaper_0 mX11_reaper := chk_ok (Q := QQ) (QP := QPl) (C := CF) (c := ck_X11_reaper_0) (G := cg_X11_reaper_0) (X := xxX11) (M := mX11_reaper) (t := tX11_reaper) (anns := ca_X11_reaper_0) 1 xx11 pl11 rfl kX11_reaper qq_ok cx_X11_reaper_0 cc_X11_reaper_0
def ck_X11_within_3 : AK := (1, [.inl fr, .inl (.ofNat 1, .ofNat 1), .inl (.ofNat 999, .ofNat 999)], [], false, [([(.ofNat 1, .ofNat 999), (.ofNat 1, .ofNat 1), (.ofNat 999, .ofNat 999)], .inl (.ofNat 1, .ofNat 1), []), ([fr, (.ofNat 1, .ofNat 1), (.ofNat 999, .ofNat 999)], .inl (.ofNat 0, .ofNat 0), [])], [])
def cg_X11_within_3 : List (Nat × AK) := []
def ca_X11_within_3 : List (Nat × AA) := []
set_option maxRecDepth 100000 in
theorem cc_X11_within_3 : aChk QPl CF ck_X11_within_3 cg_X11_within_3 xxX11 mX11_within tX11_within ca_X11_within_3 [] 1 = true := by decide +kernel
theorem cx_X11_within_3 : ctsO QQ CF xxX11 cg_X11_within_3 := ctsO_nil
theorem ct_X11_within_3 : ctrO QQ CF ck_X11_within_3 mX11_within := chk_ok (Q := QQ) (QP := QPl) (C := CF) (c := ck_X11_within_3) (G := cg_X11_within_3) (X := xxX11) (M := mX11_within) (t := tX11_within) (anns := ca_X11_within_3) 1 xx11 pl11 rfl kX11_within qq_ok cx_X11_within_3 cc_X11_within_3
def ck_X9_addBarn_0 : AK := (1, [.inr (.inl [12]), .inl fr], [12, 17], false, [([fr], .inl (.negSucc 0, .negSucc 0), []), ([fr], .inl (.ofNat 0, .ofNat 3), [])], [])
def cg_X9_addBarn_0 : List (Nat × AK) := []
def ca_X9_addBarn_0 : List (Nat × AA) := []
set_option maxRecDepth 100000 in
theorem cc_X9_addBarn_0 : aChk QPl CF ck_X9_addBarn_0 cg_X9_addBarn_0 xxX9 mX9_addBarn tX9_addBarn ca_X9_addBarn_0 [] 1 = true := by decide +kernel
theorem cx_X9_addBarn_0 : ctsO QQ CF xxX9 cg_X9_addBarn_0 := ctsO_nil
theorem ct_X9_addBarn_0 : ctrO QQ CF ck_X9_addBarn_0 mX9_addBarn := chk_ok (Q := QQ) (QP := QPl) (C := CF) (c := ck_X9_addBarn_0) (G := cg_X9_addBarn_0) (X := xxX9) (M := mX9_addBarn) (t := tX9_addBarn) (anns := ca_X9_addBarn_0) 1 xx9 pl9 rfl kX9_addBarn qq_ok cx_X9_addBarn_0 cc_X9_addBarn_0
def ck_X11_barn_0 : AK := (2, [.inr (.inl [0]), .inl fr], [12, 17], false, [([fr], .inl (.negSucc 0, .negSucc 0), []), ([(.ofNat 1, .ofNat 999)], .inl (.ofNat 0, .ofNat 3), [])], [])
def cg_X11_barn_0 : List (Nat × AK) := [(120, ck_X11_within_3), (132, ck_X9_addBarn_0)]
def ca_X11_barn_0 : List (Nat × AA) := []
set_option maxRecDepth 100000 in
theorem cc_X11_barn_0 : aChk QPl CF ck_X11_barn_0 cg_X11_barn_0 xxX11 mX11_barn tX11_barn ca_X11_barn_0 [] 1 = true := by decide +kernel
theorem cx_X11_barn_0 : ctsO QQ CF xxX11 cg_X11_barn_0 := ctsO_cons rfl ct_X11_within_3 (ctsO_cons rfl ct_X9_addBarn_0 (ctsO_nil))
theorem ct_X11_barn_0 : ctrO QQ CF ck_X11_barn_0 mX11_barn := chk_ok (Q := QQ) (QP := QPl) (C := CF) (c := ck_X11_barn_0) (G := cg_X11_barn_0) (X := xxX11) (M := mX11_barn) (t := tX11_barn) (anns := ca_X11_barn_0) 1 xx11 pl11 rfl kX11_barn qq_ok cx_X11_barn_0 cc_X11_barn_0
def ck_X6_placeOf_0 : AK := (1, [.inr (.inl [1]), .inl fr], [], false, [([fr], .inl (.negSucc 2069, .ofNat 2070), [])], [])
def cg_X6_placeOf_0 : List (Nat × AK) := []
def ca_X6_placeOf_0 : List (Nat × AA) := []
set_option maxRecDepth 100000 in
theorem cc_X6_placeOf_0 : aChk QPl CF ck_X6_placeOf_0 cg_X6_placeOf_0 xxX6 mX6_placeOf tX6_placeOf ca_X6_placeOf_0 [] 1 = true := by decide +kernel
theorem cx_X6_placeOf_0 : ctsO QQ CF xxX6 cg_X6_placeOf_0 := ctsO_nil
theorem ct_X6_placeOf_0 : ctrO QQ CF ck_X6_placeOf_0 mX6_placeOf := chk_ok (Q := QQ) (QP := QPl) (C := CF) (c := ck_X6_placeOf_0) (G := cg_X6_placeOf_0) (X := xxX6) (M := mX6_placeOf) (t := tX6_placeOf) (anns := ca_X6_placeOf_0) 1 xx6 pl6 rfl kX6_placeOf qq_ok cx_X6_placeOf_0 cc_X6_placeOf_0
def ck_X6_note_0 : AK := (2, [.inr (.inl [1]), .inr (.inl [27])], [2], false, [([], .inr (.inr 9), [])], [])
def cg_X6_note_0 : List (Nat × AK) := [(24, ck_X6_placeOf_0)]
def ca_X6_note_0 : List (Nat × AA) := []
set_option maxRecDepth 100000 in
theorem cc_X6_note_0 : aChk QPl CF ck_X6_note_0 cg_X6_note_0 xxX6 mX6_note tX6_note ca_X6_note_0 [] 1 = true := by decide +kernel
theorem cx_X6_note_0 : ctsO QQ CF xxX6 cg_X6_note_0 := ctsO_cons rfl ct_X6_placeOf_0 (ctsO_nil)
theorem ct_X6_note_0 : ctrO QQ CF ck_X6_note_0 mX6_note := chk_ok (Q := QQ) (QP := QPl) (C := CF) (c := ck_X6_note_0) (G := cg_X6_note_0) (X := xxX6) (M := mX6_note) (t := tX6_note) (anns := ca_X6_note_0) 1 xx6 pl6 rfl kX6_note qq_ok cx_X6_note_0 cc_X6_note_0
def ck_X9_hasThing_0 : AK := (1, [.inr (.inl [12]), .inl fr], [], false, [([(.ofNat 0, .ofNat 7)], .inl (.ofNat 1, .ofNat 1), []), ([fr], .inl (.ofNat 0, .ofNat 0), [])], [])
def cg_X9_hasThing_0 : List (Nat × AK) := []
def ca_X9_hasThing_0 : List (Nat × AA) := []
set_option maxRecDepth 100000 in
theorem cc_X9_hasThing_0 : aChk QPl CF ck_X9_hasThing_0 cg_X9_hasThing_0 xxX9 mX9_hasThing tX9_hasThing ca_X9_hasThing_0 [] 1 = true := by decide +kernel
theorem cx_X9_hasThing_0 : ctsO QQ CF xxX9 cg_X9_hasThing_0 := ctsO_nil
theorem ct_X9_hasThing_0 : ctrO QQ CF ck_X9_hasThing_0 mX9_hasThing := chk_ok (Q := QQ) (QP := QPl) (C := CF) (c := ck_X9_hasThing_0) (G := cg_X9_hasThing_0) (X := xxX9) (M := mX9_hasThing) (t := tX9_hasThing) (anns := ca_X9_hasThing_0) 1 xx9 pl9 rfl kX9_hasThing qq_ok cx_X9_hasThing_0 cc_X9_hasThing_0
def ck_X9_hasReaper_0 : AK := (1, [.inr (.inl [12]), .inl fr], [], false, [([(.ofNat 0, .ofNat 3)], .inl (.ofNat 1, .ofNat 1), []), ([fr], .inl (.ofNat 0, .ofNat 0), [])], [])
def cg_X9_hasReaper_0 : List (Nat × AK) := []
def ca_X9_hasReaper_0 : List (Nat × AA) := []
set_option maxRecDepth 100000 in
theorem cc_X9_hasReaper_0 : aChk QPl CF ck_X9_hasReaper_0 cg_X9_hasReaper_0 xxX9 mX9_hasReaper tX9_hasReaper ca_X9_hasReaper_0 [] 1 = true := by decide +kernel
theorem cx_X9_hasReaper_0 : ctsO QQ CF xxX9 cg_X9_hasReaper_0 := ctsO_nil
theorem ct_X9_hasReaper_0 : ctrO QQ CF ck_X9_hasReaper_0 mX9_hasReaper := chk_ok (Q := QQ) (QP := QPl) (C := CF) (c := ck_X9_hasReaper_0) (G := cg_X9_hasReaper_0) (X := xxX9) (M := mX9_hasReaper) (t := tX9_hasReaper) (anns := ca_X9_hasReaper_0) 1 xx9 pl9 rfl kX9_hasReaper qq_ok cx_X9_hasReaper_0 cc_X9_hasReaper_0
def ck_X9_hasBarn_0 : AK := (1, [.inr (.inl [12]), .inl fr], [], false, [([(.ofNat 0, .ofNat 3)], .inl (.ofNat 1, .ofNat 1), []), ([fr], .inl (.ofNat 0, .ofNat 0), [])], [])
def cg_X9_hasBarn_0 : List (Nat × AK) := []
def ca_X9_hasBarn_0 : List (Nat × AA) := []
set_option maxRecDepth 100000 in
theorem cc_X9_hasBarn_0 : aChk QPl CF ck_X9_hasBarn_0 cg_X9_hasBarn_0 xxX9 mX9_hasBarn tX9_hasBarn ca_X9_hasBarn_0 [] 1 = true := by decide +kernel
theorem cx_X9_hasBarn_0 : ctsO QQ CF xxX9 cg_X9_hasBarn_0 := ctsO_nil
theorem ct_X9_hasBarn_0 : ctrO QQ CF ck_X9_hasBarn_0 mX9_hasBarn := chk_ok (Q := QQ) (QP := QPl) (C := CF) (c := ck_X9_hasBarn_0) (G := cg_X9_hasBarn_0) (X := xxX9) (M := mX9_hasBarn) (t := tX9_hasBarn) (anns := ca_X9_hasBarn_0) 1 xx9 pl9 rfl kX9_hasBarn qq_ok cx_X9_hasBarn_0 cc_X9_hasBarn_0
def ck_X10_freeBale_0 : AK := (1, [.inr (.inl [26])], [], false, [([], .inl (.ofNat 0, .ofNat 11), []), ([], .inl (.negSucc 0, .negSucc 0), [])], [])
def cg_X10_freeBale_0 : List (Nat × AK) := []
def ca_X10_freeBale_0 : List (Nat × AA) := [(2, [(.ofNat 0, .ofNat 0), (.ofNat 0, .ofNat 12)], [.inr (.inl [26]), .inl (1, .ofNat 0)], [], [], [(0, 1, 0)], (.ofNat 12, [.ofNat 0, .negSucc 0]))]
set_option maxRecDepth 100000 in
theorem cc_X10_freeBale_0 : aChk QPl CF ck_X10_freeBale_0 cg_X10_freeBale_0 xxX10 mX10_freeBale tX10_freeBale ca_X10_freeBale_0 [] 13 = true := by decide +kernel
theorem cx_X10_freeBale_0 : ctsO QQ CF xxX10 cg_X10_freeBale_0 := ctsO_nil
theorem ct_X10_freeBale_0 : ctrO QQ CF ck_X10_freeBale_0 mX10_freeBale := chk_ok (Q := QQ) (QP := QPl) (C := CF) (c := ck_X10_freeBale_0) (G := cg_X10_freeBale_0) (X := xxX10) (M := mX10_freeBale) (t := tX10_freeBale) (anns := ca_X10_freeBale_0) 13 xx10 pl10 rfl kX10_freeBale qq_ok cx_X10_freeBale_0 cc_X10_freeBale_0
def ck_X2_describeThing_0 : AK := (1, [.inr (.inl [23]), .inl fr, .inl fr, .inl fr], [24], false, [([fr, fr, fr], .inr (.inr 9), [])], [])
def cg_X2_describeThing_0 : List (Nat × AK) := []
def ca_X2_describeThing_0 : List (Nat × AA) := []
set_option maxRecDepth 100000 in
theorem cc_X2_describeThing_0 : aChk QPl CF ck_X2_describeThing_0 cg_X2_describeThing_0 xxX2 mX2_describeThing tX2_describeThing ca_X2_describeThing_0 [] 1 = true := by decide +kernel
theorem cx_X2_describeThing_0 : ctsO QQ CF xxX2 cg_X2_describeThing_0 := ctsO_nil
theorem ct_X2_describeThing_0 : ctrO QQ CF ck_X2_describeThing_0 mX2_describeThing := chk_ok (Q := QQ) (QP := QPl) (C := CF) (c := ck_X2_describeThing_0) (G := cg_X2_describeThing_0) (X := xxX2) (M := mX2_describeThing) (t := tX2_describeThing) (anns := ca_X2_describeThing_0) 1 xx2 pl2 rfl kX2_describeThing qq_ok cx_X2_describeThing_0 cc_X2_describeThing_0
def ck_X8_hasLaw_0 : AK := (1, [.inr (.inl [18, 47, 52, 57, 62]), .inl fr], [], false, [([(.ofNat 0, .ofNat 4)], .inl (.ofNat 1, .ofNat 1), []), ([fr], .inl (.ofNat 0, .ofNat 0), [])], [])
def cg_X8_hasLaw_0 : List (Nat × AK) := []
def ca_X8_hasLaw_0 : List (Nat × AA) := []
set_option maxRecDepth 100000 in
theorem cc_X8_hasLaw_0 : aChk QPl CF ck_X8_hasLaw_0 cg_X8_hasLaw_0 xxX8 mX8_hasLaw tX8_hasLaw ca_X8_hasLaw_0 [] 1 = true := by decide +kernel
theorem cx_X8_hasLaw_0 : ctsO QQ CF xxX8 cg_X8_hasLaw_0 := ctsO_nil
theorem ct_X8_hasLaw_0 : ctrO QQ CF ck_X8_hasLaw_0 mX8_hasLaw := chk_ok (Q := QQ) (QP := QPl) (C := CF) (c := ck_X8_hasLaw_0) (G := cg_X8_hasLaw_0) (X := xxX8) (M := mX8_hasLaw) (t := tX8_hasLaw) (anns := ca_X8_hasLaw_0) 1 xx8 pl8 rfl kX8_hasLaw qq_ok cx_X8_hasLaw_0 cc_X8_hasLaw_0
def ck_X2_run_0 : AK := (1, [.inr (.inl [23]), .inl fr, .inl fr], [], false, [([fr, fr], .inl (.ofNat 0, .ofNat 0), []), ([(.ofNat 0, .ofNat 4), fr], .inl fr, [])], [])
def cg_X2_run_0 : List (Nat × AK) := []
def ca_X2_run_0_24 : Nat × AA := (24, [(.ofNat 0, .ofNat 0), (.ofNat 0, .ofNat 4), fr, (.ofNat 0, .ofNat 64), fr], [.inr (.inl [23]), .inl (1, .ofNat 0), .inl (2, .ofNat 0), .inl (3, .ofNat 0), .inl (4, .ofNat 0), .inr (.inr 0), .inr (.inr 0), .inr (.inr 0), .inr (.inr 0), .inr (.inr 0), .inr (.inr 0), .inr (.inr 0), .inr (.inr 0)], [], [], [(0, 3, 0), (0, 4, 0)], (.ofNat 6442450943, [.ofNat 0, .ofNat 0, .ofNat 0, .ofNat 0, .negSucc 2]))
def ca_X2_run_0_303 : Nat × AA := (303, [(.ofNat 0, .ofNat 0), (.ofNat 0, .ofNat 4), fr, (.ofNat 0, .ofNat 64), (.ofNat 0, .ofNat 299), (.ofNat 8, .ofNat 8), (.negSucc 9998, .ofNat 9999)], [.inr (.inl [23]), .inl (1, .ofNat 0), .inl (2, .ofNat 0), .inl (3, .ofNat 0), .inl (4, .ofNat 0), .inl (5, .ofNat 0), .inl (6, .ofNat 0), .inr (.inr 1), .inr (.inr 0), .inr (.inr 1), .inr (.inr 0), .inr (.inr 0), .inr (.inr 0)], [], [], [(0, 3, 0), (0, 4, 0), (0, 5, 0), (0, 6, 0)], (.ofNat 6442450942, [.ofNat 0, .ofNat 0, .ofNat 0, .ofNat 0, .negSucc 2, .ofNat 0, .ofNat 0]))
def ca_X2_run_0_319 : Nat × AA := (319, [(.ofNat 0, .ofNat 0), (.ofNat 0, .ofNat 4), fr, (.ofNat 0, .ofNat 64), (.ofNat 0, .ofNat 299), (.ofNat 8, .ofNat 8), (.negSucc 9998, .ofNat 9999)], [.inr (.inl [23]), .inl (1, .ofNat 0), .inl (2, .ofNat 0), .inl (3, .ofNat 0), .inl (4, .ofNat 0), .inl (5, .ofNat 0), .inl (6, .ofNat 0), .inr (.inr 1), .inr (.inr 0), .inr (.inr 1), .inr (.inr 0), .inr (.inr 0), .inr (.inr 0)], [.inr (.inr 1)], [], [(0, 3, 0), (0, 4, 0), (0, 5, 0), (0, 6, 0)], (.ofNat 6442450941, [.ofNat 0, .ofNat 0, .ofNat 0, .ofNat 0, .negSucc 2, .ofNat 0, .ofNat 0]))
def ca_X2_run_0 : List (Nat × AA) := [ca_X2_run_0_24, ca_X2_run_0_303, ca_X2_run_0_319]
set_option maxRecDepth 100000 in
theorem cc_X2_run_0 : aChk QPl CF ck_X2_run_0 cg_X2_run_0 xxX2 mX2_run tX2_run ca_X2_run_0 [303] 12884901888 = true := by decide +kernel
theorem cx_X2_run_0 : ctsO QQ CF xxX2 cg_X2_run_0 := ctsO_nil
set_option maxRecDepth 100000 in
set_option maxHeartbeats 4000000 in
theorem seg_X2_run_0 : ∀ q, q ∈ ca_X2_run_0 → nmem q.1 [303] = true → ∀ (l : Launch) (d : Nat) (sh : List XO) (I : XI) (as : List Value) (Rp : XR), agO ck_X2_run_0.2.1 as → (∀ I2, frO ck_X2_run_0.2.2.1 I I2 → QQ I2) → outO QQ CF ck_X2_run_0.2.2.1 ck_X2_run_0.2.2.2.1 sh I ck_X2_run_0.2.2.2.2.1 as Rp → segO CF ck_X2_run_0.2.2.1 ck_X2_run_0.2.2.2.1 sh I xxX2 mX2_run.2.2.2 (!(Nat.beq 0 0)) sh.length 0 0 l (d + (ck_X2_run_0.1 - 1)) tX2_run (ca_X2_run_0.map fun q => q.1) Rp as ca_X2_run_0 (aInts ck_X2_run_0.2.1).length q := by
  intro q hq hz l d sh0 I0 as Rp ha _ _ K R lc st sh I J hK hg hp
  simp only [ca_X2_run_0, List.mem_cons, List.not_mem_nil, or_false] at hq
  rcases hq with rfl | rfl | rfl
  · exact absurd hz (by decide)
  · cases st with
    | cons _ _ => exact hg.2.1.2.elim
    | nil =>
      obtain ⟨o7, e7, y7, hy7⟩ := hg.2.1.1 7 (.inr (.inr 1)) rfl
      obtain ⟨o9, e9, y9, hy9⟩ := hg.2.1.1 9 (.inr (.inr 1)) rfl
      obtain ⟨ol, el, _⟩ := hg.2.1.1 12 (.inr (.inr 0)) rfl
      have hk : kkA CF ((aInts ck_X2_run_0.2.1).length + 1) ca_X2_run_0 (some ca_X2_run_0_303.2.2.2.2.2.2) 319 (aPu (stA ca_X2_run_0_303.2) [] (.inr (.inr 1))) = true := by decide +kernel
      have go : ∀ (v : Int64), K 319 lc [.long v] sh I J 0 0 := fun v => hK 319 _ hk R lc [.long v] sh I J (ga_pu hg trivial ⟨v, rfl⟩)
      obtain ⟨a0, a1, a2, a3, a4, a5, a6, a7, a8, a9, a10, a11, a12, r, rfl⟩ := ex13 el
      cases e7
      subst hy7
      cases e9
      subst hy9
      refine And.intro (fun h => ?_) (fun h => ?_)
      · exact And.intro (fun z => h (by rw [z]; decide)) (go _)
      · exact go _
  · exact absurd hz (by decide)
theorem ct_X2_run_0 : ctrO QQ CF ck_X2_run_0 mX2_run := chk_okS (Q := QQ) (QP := QPl) (C := CF) (c := ck_X2_run_0) (G := cg_X2_run_0) (X := xxX2) (M := mX2_run) (t := tX2_run) (anns := ca_X2_run_0) [303] 12884901888 xx2 pl2 rfl kX2_run qq_ok cx_X2_run_0 seg_X2_run_0 cc_X2_run_0
def ck_X2_shadow_0 : AK := (2, [.inr (.inl [23]), .inl fr, .inl fr, .inl fr, .inl fr, .inl fr], [24], false, [([fr, fr, fr, fr, fr], .inl (.ofNat 0, .ofNat 0), []), ([fr, fr, fr, fr, fr], .inl fr, [])], [])
def cg_X2_shadow_0 : List (Nat × AK) := [(38, ck_X2_describeThing_0), (42, ck_X8_hasLaw_0), (54, ck_X2_run_0)]
def ca_X2_shadow_0 : List (Nat × AA) := []
set_option maxRecDepth 100000 in
theorem cc_X2_shadow_0 : aChk QPl CF ck_X2_shadow_0 cg_X2_shadow_0 xxX2 mX2_shadow tX2_shadow ca_X2_shadow_0 [] 1 = true := by decide +kernel
theorem cx_X2_shadow_0 : ctsO QQ CF xxX2 cg_X2_shadow_0 := ctsO_cons rfl ct_X2_describeThing_0 (ctsO_cons rfl ct_X8_hasLaw_0 (ctsO_cons rfl ct_X2_run_0 (ctsO_nil)))
theorem ct_X2_shadow_0 : ctrO QQ CF ck_X2_shadow_0 mX2_shadow := chk_ok (Q := QQ) (QP := QPl) (C := CF) (c := ck_X2_shadow_0) (G := cg_X2_shadow_0) (X := xxX2) (M := mX2_shadow) (t := tX2_shadow) (anns := ca_X2_shadow_0) 1 xx2 pl2 rfl kX2_shadow qq_ok cx_X2_shadow_0 cc_X2_shadow_0
def ck_X10_feetIn_0 : AK := (1, [.inr (.inl [26]), .inl fr], [], false, [([fr], .inl fr, [])], [])
def cg_X10_feetIn_0 : List (Nat × AK) := []
def ca_X10_feetIn_0 : List (Nat × AA) := [(4, [(.ofNat 0, .ofNat 0), fr, fr, (.ofNat 0, .ofNat 12)], [.inr (.inl [26]), .inl (1, .ofNat 0), .inl (2, .ofNat 0), .inl (3, .ofNat 0)], [], [], [(0, 2, 0), (0, 3, 0)], (.ofNat 12, [.ofNat 0, .ofNat 0, .ofNat 0, .negSucc 0]))]
set_option maxRecDepth 100000 in
theorem cc_X10_feetIn_0 : aChk QPl CF ck_X10_feetIn_0 cg_X10_feetIn_0 xxX10 mX10_feetIn tX10_feetIn ca_X10_feetIn_0 [] 13 = true := by decide +kernel
theorem cx_X10_feetIn_0 : ctsO QQ CF xxX10 cg_X10_feetIn_0 := ctsO_nil
theorem ct_X10_feetIn_0 : ctrO QQ CF ck_X10_feetIn_0 mX10_feetIn := chk_ok (Q := QQ) (QP := QPl) (C := CF) (c := ck_X10_feetIn_0) (G := cg_X10_feetIn_0) (X := xxX10) (M := mX10_feetIn) (t := tX10_feetIn) (anns := ca_X10_feetIn_0) 13 xx10 pl10 rfl kX10_feetIn qq_ok cx_X10_feetIn_0 cc_X10_feetIn_0
def ck_X2_allows_0 : AK := (2, [.inr (.inl [23]), .inl fr, .inl fr, .inl fr, .inl fr, .inl fr], [24], false, [([fr, fr, fr, fr, fr], .inl (.ofNat 0, .ofNat 0), []), ([fr, fr, fr, fr, fr], .inl (.ofNat 1, .ofNat 1), [])], [])
def cg_X2_allows_0 : List (Nat × AK) := [(42, ck_X8_hasLaw_0), (38, ck_X2_describeThing_0), (54, ck_X2_run_0)]
def ca_X2_allows_0 : List (Nat × AA) := []
set_option maxRecDepth 100000 in
theorem cc_X2_allows_0 : aChk QPl CF ck_X2_allows_0 cg_X2_allows_0 xxX2 mX2_allows tX2_allows ca_X2_allows_0 [] 1 = true := by decide +kernel
theorem cx_X2_allows_0 : ctsO QQ CF xxX2 cg_X2_allows_0 := ctsO_cons rfl ct_X8_hasLaw_0 (ctsO_cons rfl ct_X2_describeThing_0 (ctsO_cons rfl ct_X2_run_0 (ctsO_nil)))
theorem ct_X2_allows_0 : ctrO QQ CF ck_X2_allows_0 mX2_allows := chk_ok (Q := QQ) (QP := QPl) (C := CF) (c := ck_X2_allows_0) (G := cg_X2_allows_0) (X := xxX2) (M := mX2_allows) (t := tX2_allows) (anns := ca_X2_allows_0) 1 xx2 pl2 rfl kX2_allows qq_ok cx_X2_allows_0 cc_X2_allows_0
def ck_X10_cutLength_0 : AK := (3, [.inr (.inl [26]), .inl fr, .inl fr, .inl fr], [24], false, [([fr, fr, fr], .inl (.ofNat 0, .ofNat 2147483647), [])], [])
def cg_X10_cutLength_0 : List (Nat × AK) := [(46, ck_X9_hasThing_0), (80, ck_X9_hasReaper_0), (33, ck_X9_hasBarn_0), (83, ck_X10_freeBale_0), (49, ck_X2_shadow_0), (39, ck_X10_feetIn_0), (59, ck_X2_allows_0)]
def ca_X10_cutLength_0 : List (Nat × AA) := []
set_option maxRecDepth 100000 in
theorem cc_X10_cutLength_0 : aChk QPl CF ck_X10_cutLength_0 cg_X10_cutLength_0 xxX10 mX10_cutLength tX10_cutLength ca_X10_cutLength_0 [] 1 = true := by decide +kernel
theorem cx_X10_cutLength_0 : ctsO QQ CF xxX10 cg_X10_cutLength_0 := ctsO_cons rfl ct_X9_hasThing_0 (ctsO_cons rfl ct_X9_hasReaper_0 (ctsO_cons rfl ct_X9_hasBarn_0 (ctsO_cons rfl ct_X10_freeBale_0 (ctsO_cons rfl ct_X2_shadow_0 (ctsO_cons rfl ct_X10_feetIn_0 (ctsO_cons rfl ct_X2_allows_0 (ctsO_nil)))))))
theorem ct_X10_cutLength_0 : ctrO QQ CF ck_X10_cutLength_0 mX10_cutLength := chk_ok (Q := QQ) (QP := QPl) (C := CF) (c := ck_X10_cutLength_0) (G := cg_X10_cutLength_0) (X := xxX10) (M := mX10_cutLength) (t := tX10_cutLength) (anns := ca_X10_cutLength_0) 1 xx10 pl10 rfl kX10_cutLength qq_ok cx_X10_cutLength_0 cc_X10_cutLength_0
def ck_X10_shadowOf_0 : AK := (3, [.inr (.inl [26]), .inl fr], [24], false, [([fr], .inl (.ofNat 0, .ofNat 0), []), ([(.ofNat 0, .ofNat 7)], .inl fr, [])], [])
def cg_X10_shadowOf_0 : List (Nat × AK) := [(46, ck_X9_hasThing_0), (49, ck_X2_shadow_0)]
def ca_X10_shadowOf_0 : List (Nat × AA) := []
set_option maxRecDepth 100000 in
theorem cc_X10_shadowOf_0 : aChk QPl CF ck_X10_shadowOf_0 cg_X10_shadowOf_0 xxX10 mX10_shadowOf tX10_shadowOf ca_X10_shadowOf_0 [] 1 = true := by decide +kernel
theorem cx_X10_shadowOf_0 : ctsO QQ CF xxX10 cg_X10_shadowOf_0 := ctsO_cons rfl ct_X9_hasThing_0 (ctsO_cons rfl ct_X2_shadow_0 (ctsO_nil))
theorem ct_X10_shadowOf_0 : ctrO QQ CF ck_X10_shadowOf_0 mX10_shadowOf := chk_ok (Q := QQ) (QP := QPl) (C := CF) (c := ck_X10_shadowOf_0) (G := cg_X10_shadowOf_0) (X := xxX10) (M := mX10_shadowOf) (t := tX10_shadowOf) (anns := ca_X10_shadowOf_0) 1 xx10 pl10 rfl kX10_shadowOf qq_ok cx_X10_shadowOf_0 cc_X10_shadowOf_0
def ck_X10_bind_0 : AK := (2, [.inr (.inl [26]), .inl fr, .inl fr, .inl fr], [27], false, [([fr, fr, fr], .inl (.ofNat 0, .ofNat 11), []), ([fr, fr, fr], .inl (.negSucc 0, .negSucc 0), [])], [])
def cg_X10_bind_0 : List (Nat × AK) := [(83, ck_X10_freeBale_0)]
def ca_X10_bind_0 : List (Nat × AA) := []
set_option maxRecDepth 100000 in
theorem cc_X10_bind_0 : aChk QPl CF ck_X10_bind_0 cg_X10_bind_0 xxX10 mX10_bind tX10_bind ca_X10_bind_0 [] 1 = true := by decide +kernel
theorem cx_X10_bind_0 : ctsO QQ CF xxX10 cg_X10_bind_0 := ctsO_cons rfl ct_X10_freeBale_0 (ctsO_nil)
theorem ct_X10_bind_0 : ctrO QQ CF ck_X10_bind_0 mX10_bind := chk_ok (Q := QQ) (QP := QPl) (C := CF) (c := ck_X10_bind_0) (G := cg_X10_bind_0) (X := xxX10) (M := mX10_bind) (t := tX10_bind) (anns := ca_X10_bind_0) 1 xx10 pl10 rfl kX10_bind qq_ok cx_X10_bind_0 cc_X10_bind_0
def ck_X10_cutOff_0 : AK := (4, [.inr (.inl [26]), .inl fr, .inl fr, .inl fr], [24, 27], false, [([fr, fr, fr], .inl (.negSucc 0, .negSucc 0), []), ([(.ofNat 0, .ofNat 7), (.ofNat 0, .ofNat 3), fr], .inl (.ofNat 0, .ofNat 11), [])], [])
def cg_X10_cutOff_0 : List (Nat × AK) := [(95, ck_X10_cutLength_0), (99, ck_X10_shadowOf_0), (46, ck_X9_hasThing_0), (80, ck_X9_hasReaper_0), (105, ck_X10_bind_0)]
def ca_X10_cutOff_0 : List (Nat × AA) := []
set_option maxRecDepth 100000 in
theorem cc_X10_cutOff_0 : aChk QPl CF ck_X10_cutOff_0 cg_X10_cutOff_0 xxX10 mX10_cutOff tX10_cutOff ca_X10_cutOff_0 [] 1 = true := by decide +kernel
theorem cx_X10_cutOff_0 : ctsO QQ CF xxX10 cg_X10_cutOff_0 := ctsO_cons rfl ct_X10_cutLength_0 (ctsO_cons rfl ct_X10_shadowOf_0 (ctsO_cons rfl ct_X9_hasThing_0 (ctsO_cons rfl ct_X9_hasReaper_0 (ctsO_cons rfl ct_X10_bind_0 (ctsO_nil)))))
theorem ct_X10_cutOff_0 : ctrO QQ CF ck_X10_cutOff_0 mX10_cutOff := chk_ok (Q := QQ) (QP := QPl) (C := CF) (c := ck_X10_cutOff_0) (G := cg_X10_cutOff_0) (X := xxX10) (M := mX10_cutOff) (t := tX10_cutOff) (anns := ca_X10_cutOff_0) 1 xx10 pl10 rfl kX10_cutOff qq_ok cx_X10_cutOff_0 cc_X10_cutOff_0
def ck_X6_count_0 : AK := (1, [.inr (.inl [1])], [1], false, [([], .inr (.inr 9), [])], [])
def cg_X6_count_0 : List (Nat × AK) := []
def ca_X6_count_0 : List (Nat × AA) := []
set_option maxRecDepth 100000 in
theorem cc_X6_count_0 : aChk QPl CF ck_X6_count_0 cg_X6_count_0 xxX6 mX6_count tX6_count ca_X6_count_0 [] 1 = true := by decide +kernel
theorem cx_X6_count_0 : ctsO QQ CF xxX6 cg_X6_count_0 := ctsO_nil
theorem ct_X6_count_0 : ctrO QQ CF ck_X6_count_0 mX6_count := chk_ok (Q := QQ) (QP := QPl) (C := CF) (c := ck_X6_count_0) (G := cg_X6_count_0) (X := xxX6) (M := mX6_count) (t := tX6_count) (anns := ca_X6_count_0) 1 xx6 pl6 rfl kX6_count qq_ok cx_X6_count_0 cc_X6_count_0
def ck_X11_cut_0 : AK := (5, [.inr (.inl [0]), .inl fr, .inl fr, .inl fr], [1, 2, 24, 27], false, [([fr, fr, fr], .inl (.negSucc 0, .negSucc 0), []), ([(.ofNat 0, .ofNat 7), (.ofNat 0, .ofNat 3), fr], .inl (.ofNat 0, .ofNat 11), [])], [])
def cg_X11_cut_0 : List (Nat × AK) := [(138, ck_X6_note_0), (142, ck_X10_cutOff_0), (145, ck_X6_count_0)]
def ca_X11_cut_0 : List (Nat × AA) := []
set_option maxRecDepth 100000 in
theorem cc_X11_cut_0 : aChk QPl CF ck_X11_cut_0 cg_X11_cut_0 xxX11 mX11_cut tX11_cut ca_X11_cut_0 [] 1 = true := by decide +kernel
theorem cx_X11_cut_0 : ctsO QQ CF xxX11 cg_X11_cut_0 := ctsO_cons rfl ct_X6_note_0 (ctsO_cons rfl ct_X10_cutOff_0 (ctsO_cons rfl ct_X6_count_0 (ctsO_nil)))
theorem ct_X11_cut_0 : ctrO QQ CF ck_X11_cut_0 mX11_cut := chk_ok (Q := QQ) (QP := QPl) (C := CF) (c := ck_X11_cut_0) (G := cg_X11_cut_0) (X := xxX11) (M := mX11_cut) (t := tX11_cut) (anns := ca_X11_cut_0) 1 xx11 pl11 rfl kX11_cut qq_ok cx_X11_cut_0 cc_X11_cut_0
def ck_X10_hasRoom_0 : AK := (2, [.inr (.inl [26]), .inl fr, .inl fr], [], false, [([(.ofNat 0, .ofNat 3), fr], .inl (.ofNat 1, .ofNat 1), []), ([fr, fr], .inl (.ofNat 0, .ofNat 0), [])], [])
def cg_X10_hasRoom_0 : List (Nat × AK) := [(33, ck_X9_hasBarn_0), (39, ck_X10_feetIn_0)]
def ca_X10_hasRoom_0 : List (Nat × AA) := []
set_option maxRecDepth 100000 in
theorem cc_X10_hasRoom_0 : aChk QPl CF ck_X10_hasRoom_0 cg_X10_hasRoom_0 xxX10 mX10_hasRoom tX10_hasRoom ca_X10_hasRoom_0 [] 1 = true := by decide +kernel
theorem cx_X10_hasRoom_0 : ctsO QQ CF xxX10 cg_X10_hasRoom_0 := ctsO_cons rfl ct_X9_hasBarn_0 (ctsO_cons rfl ct_X10_feetIn_0 (ctsO_nil))
theorem ct_X10_hasRoom_0 : ctrO QQ CF ck_X10_hasRoom_0 mX10_hasRoom := chk_ok (Q := QQ) (QP := QPl) (C := CF) (c := ck_X10_hasRoom_0) (G := cg_X10_hasRoom_0) (X := xxX10) (M := mX10_hasRoom) (t := tX10_hasRoom) (anns := ca_X10_hasRoom_0) 1 xx10 pl10 rfl kX10_hasRoom qq_ok cx_X10_hasRoom_0 cc_X10_hasRoom_0
def ck_X10_sendOff_0 : AK := (3, [.inr (.inl [26]), .inl fr, .inl fr], [27], false, [([(.ofNat 0, .ofNat 3), (.ofNat 0, .ofNat 3)], .inl (.ofNat 0, .ofNat 11), []), ([fr, fr], .inl (.negSucc 0, .negSucc 0), [])], [])
def cg_X10_sendOff_0 : List (Nat × AK) := [(80, ck_X9_hasReaper_0), (108, ck_X10_hasRoom_0), (83, ck_X10_freeBale_0), (105, ck_X10_bind_0)]
def ca_X10_sendOff_0 : List (Nat × AA) := []
set_option maxRecDepth 100000 in
theorem cc_X10_sendOff_0 : aChk QPl CF ck_X10_sendOff_0 cg_X10_sendOff_0 xxX10 mX10_sendOff tX10_sendOff ca_X10_sendOff_0 [] 1 = true := by decide +kernel
theorem cx_X10_sendOff_0 : ctsO QQ CF xxX10 cg_X10_sendOff_0 := ctsO_cons rfl ct_X9_hasReaper_0 (ctsO_cons rfl ct_X10_hasRoom_0 (ctsO_cons rfl ct_X10_freeBale_0 (ctsO_cons rfl ct_X10_bind_0 (ctsO_nil))))
theorem ct_X10_sendOff_0 : ctrO QQ CF ck_X10_sendOff_0 mX10_sendOff := chk_ok (Q := QQ) (QP := QPl) (C := CF) (c := ck_X10_sendOff_0) (G := cg_X10_sendOff_0) (X := xxX10) (M := mX10_sendOff) (t := tX10_sendOff) (anns := ca_X10_sendOff_0) 1 xx10 pl10 rfl kX10_sendOff qq_ok cx_X10_sendOff_0 cc_X10_sendOff_0
def ck_X11_last_0 : AK := (4, [.inr (.inl [0]), .inl fr, .inl fr], [1, 2, 27], false, [([(.ofNat 0, .ofNat 3), (.ofNat 0, .ofNat 3)], .inl (.ofNat 0, .ofNat 11), []), ([fr, fr], .inl (.negSucc 0, .negSucc 0), [])], [])
def cg_X11_last_0 : List (Nat × AK) := [(138, ck_X6_note_0), (148, ck_X10_sendOff_0), (145, ck_X6_count_0)]
def ca_X11_last_0 : List (Nat × AA) := []
set_option maxRecDepth 100000 in
theorem cc_X11_last_0 : aChk QPl CF ck_X11_last_0 cg_X11_last_0 xxX11 mX11_last tX11_last ca_X11_last_0 [] 1 = true := by decide +kernel
theorem cx_X11_last_0 : ctsO QQ CF xxX11 cg_X11_last_0 := ctsO_cons rfl ct_X6_note_0 (ctsO_cons rfl ct_X10_sendOff_0 (ctsO_cons rfl ct_X6_count_0 (ctsO_nil)))
theorem ct_X11_last_0 : ctrO QQ CF ck_X11_last_0 mX11_last := chk_ok (Q := QQ) (QP := QPl) (C := CF) (c := ck_X11_last_0) (G := cg_X11_last_0) (X := xxX11) (M := mX11_last) (t := tX11_last) (anns := ca_X11_last_0) 1 xx11 pl11 rfl kX11_last qq_ok cx_X11_last_0 cc_X11_last_0
def ck_X10_hasBale_0 : AK := (1, [.inr (.inl [26]), .inl fr], [], false, [([(.ofNat 0, .ofNat 11)], .inl (.ofNat 1, .ofNat 1), []), ([fr], .inl (.ofNat 0, .ofNat 0), [])], [])
def cg_X10_hasBale_0 : List (Nat × AK) := []
def ca_X10_hasBale_0 : List (Nat × AA) := []
set_option maxRecDepth 100000 in
theorem cc_X10_hasBale_0 : aChk QPl CF ck_X10_hasBale_0 cg_X10_hasBale_0 xxX10 mX10_hasBale tX10_hasBale ca_X10_hasBale_0 [] 1 = true := by decide +kernel
theorem cx_X10_hasBale_0 : ctsO QQ CF xxX10 cg_X10_hasBale_0 := ctsO_nil
theorem ct_X10_hasBale_0 : ctrO QQ CF ck_X10_hasBale_0 mX10_hasBale := chk_ok (Q := QQ) (QP := QPl) (C := CF) (c := ck_X10_hasBale_0) (G := cg_X10_hasBale_0) (X := xxX10) (M := mX10_hasBale) (t := tX10_hasBale) (anns := ca_X10_hasBale_0) 1 xx10 pl10 rfl kX10_hasBale qq_ok cx_X10_hasBale_0 cc_X10_hasBale_0
def ck_X10_darkest_0 : AK := (2, [.inr (.inl [26]), .inl fr], [], false, [([fr], .inl (.negSucc 0, .ofNat 11), [])], [])
def cg_X10_darkest_0 : List (Nat × AK) := [(63, ck_X10_hasBale_0)]
def ca_X10_darkest_0 : List (Nat × AA) := [(4, [(.ofNat 0, .ofNat 0), fr, (.negSucc 0, .ofNat 11), (.ofNat 0, .ofNat 12)], [.inr (.inl [26]), .inl (1, .ofNat 0), .inl (2, .ofNat 0), .inl (3, .ofNat 0), .inr (.inr 0)], [], [], [(0, 2, 0), (0, 3, 0)], (.ofNat 12, [.ofNat 0, .ofNat 0, .ofNat 0, .negSucc 0]))]
set_option maxRecDepth 100000 in
theorem cc_X10_darkest_0 : aChk QPl CF ck_X10_darkest_0 cg_X10_darkest_0 xxX10 mX10_darkest tX10_darkest ca_X10_darkest_0 [] 13 = true := by decide +kernel
theorem cx_X10_darkest_0 : ctsO QQ CF xxX10 cg_X10_darkest_0 := ctsO_cons rfl ct_X10_hasBale_0 (ctsO_nil)
theorem ct_X10_darkest_0 : ctrO QQ CF ck_X10_darkest_0 mX10_darkest := chk_ok (Q := QQ) (QP := QPl) (C := CF) (c := ck_X10_darkest_0) (G := cg_X10_darkest_0) (X := xxX10) (M := mX10_darkest) (t := tX10_darkest) (anns := ca_X10_darkest_0) 13 xx10 pl10 rfl kX10_darkest qq_ok cx_X10_darkest_0 cc_X10_darkest_0
def ck_X10_shorten_0 : AK := (2, [.inr (.inl [26]), .inl fr, .inl fr], [27], false, [([fr, fr], .inr (.inr 9), [])], [])
def cg_X10_shorten_0 : List (Nat × AK) := [(63, ck_X10_hasBale_0)]
def ca_X10_shorten_0 : List (Nat × AA) := []
set_option maxRecDepth 100000 in
theorem cc_X10_shorten_0 : aChk QPl CF ck_X10_shorten_0 cg_X10_shorten_0 xxX10 mX10_shorten tX10_shorten ca_X10_shorten_0 [] 1 = true := by decide +kernel
theorem cx_X10_shorten_0 : ctsO QQ CF xxX10 cg_X10_shorten_0 := ctsO_cons rfl ct_X10_hasBale_0 (ctsO_nil)
theorem ct_X10_shorten_0 : ctrO QQ CF ck_X10_shorten_0 mX10_shorten := chk_ok (Q := QQ) (QP := QPl) (C := CF) (c := ck_X10_shorten_0) (G := cg_X10_shorten_0) (X := xxX10) (M := mX10_shorten) (t := tX10_shorten) (anns := ca_X10_shorten_0) 1 xx10 pl10 rfl kX10_shorten qq_ok cx_X10_shorten_0 cc_X10_shorten_0
def ck_X10_takeFeet_0 : AK := (3, [.inr (.inl [26]), .inl fr, .inl fr], [27], false, [([(.negSucc 2147483646, .ofNat 2147483647), fr], .inl (.ofNat 0, .ofNat 0), []), ([fr, fr], .inl (.ofNat 1, .ofNat 1), [])], [])
def cg_X10_takeFeet_0 : List (Nat × AK) := [(39, ck_X10_feetIn_0), (115, ck_X10_darkest_0), (63, ck_X10_hasBale_0), (118, ck_X10_shorten_0)]
def ca_X10_takeFeet_0 : List (Nat × AA) := [(16, [(.ofNat 0, .ofNat 0), fr, fr, (.ofNat 0, .ofNat 12), fr], [.inr (.inl [26]), .inl (1, .ofNat 0), .inl (2, .ofNat 0), .inl (4, .ofNat 0), .inl (3, .ofNat 0), .inr (.inr 0), .inr (.inr 0)], [], [], [(0, 4, 0), (0, 3, 0)], (.ofNat 12, [.ofNat 0, .ofNat 0, .ofNat 0, .negSucc 0, .ofNat 0]))]
set_option maxRecDepth 100000 in
theorem cc_X10_takeFeet_0 : aChk QPl CF ck_X10_takeFeet_0 cg_X10_takeFeet_0 xxX10 mX10_takeFeet tX10_takeFeet ca_X10_takeFeet_0 [] 13 = true := by decide +kernel
theorem cx_X10_takeFeet_0 : ctsO QQ CF xxX10 cg_X10_takeFeet_0 := ctsO_cons rfl ct_X10_feetIn_0 (ctsO_cons rfl ct_X10_darkest_0 (ctsO_cons rfl ct_X10_hasBale_0 (ctsO_cons rfl ct_X10_shorten_0 (ctsO_nil))))
theorem ct_X10_takeFeet_0 : ctrO QQ CF ck_X10_takeFeet_0 mX10_takeFeet := chk_ok (Q := QQ) (QP := QPl) (C := CF) (c := ck_X10_takeFeet_0) (G := cg_X10_takeFeet_0) (X := xxX10) (M := mX10_takeFeet) (t := tX10_takeFeet) (anns := ca_X10_takeFeet_0) 13 xx10 pl10 rfl kX10_takeFeet qq_ok cx_X10_takeFeet_0 cc_X10_takeFeet_0
def ck_X11_use_0 : AK := (4, [.inr (.inl [0]), .inl fr, .inl fr], [1, 2, 27], false, [([fr, fr], .inl (.negSucc 0, .negSucc 0), []), ([(.ofNat 1, .ofNat 999), (.ofNat 0, .ofNat 3)], .inl fr, [])], [])
def cg_X11_use_0 : List (Nat × AK) := [(120, ck_X11_within_3), (152, ck_X9_hasBarn_0), (138, ck_X6_note_0), (156, ck_X10_takeFeet_0), (145, ck_X6_count_0), (160, ck_X10_feetIn_0)]
def ca_X11_use_0 : List (Nat × AA) := []
set_option maxRecDepth 100000 in
theorem cc_X11_use_0 : aChk QPl CF ck_X11_use_0 cg_X11_use_0 xxX11 mX11_use tX11_use ca_X11_use_0 [] 1 = true := by decide +kernel
theorem cx_X11_use_0 : ctsO QQ CF xxX11 cg_X11_use_0 := ctsO_cons rfl ct_X11_within_3 (ctsO_cons rfl ct_X9_hasBarn_0 (ctsO_cons rfl ct_X6_note_0 (ctsO_cons rfl ct_X10_takeFeet_0 (ctsO_cons rfl ct_X6_count_0 (ctsO_cons rfl ct_X10_feetIn_0 (ctsO_nil))))))
theorem ct_X11_use_0 : ctrO QQ CF ck_X11_use_0 mX11_use := chk_ok (Q := QQ) (QP := QPl) (C := CF) (c := ck_X11_use_0) (G := cg_X11_use_0) (X := xxX11) (M := mX11_use) (t := tX11_use) (anns := ca_X11_use_0) 1 xx11 pl11 rfl kX11_use qq_ok cx_X11_use_0 cc_X11_use_0
def ck_X10_carry_0 : AK := (3, [.inr (.inl [26]), .inl fr, .inl fr], [27], false, [([(.ofNat 0, .ofNat 11), (.ofNat 0, .ofNat 3)], .inl (.ofNat 1, .ofNat 1), []), ([fr, fr], .inl (.ofNat 0, .ofNat 0), [])], [])
def cg_X10_carry_0 : List (Nat × AK) := [(63, ck_X10_hasBale_0), (108, ck_X10_hasRoom_0)]
def ca_X10_carry_0 : List (Nat × AA) := []
set_option maxRecDepth 100000 in
theorem cc_X10_carry_0 : aChk QPl CF ck_X10_carry_0 cg_X10_carry_0 xxX10 mX10_carry tX10_carry ca_X10_carry_0 [] 1 = true := by decide +kernel
theorem cx_X10_carry_0 : ctsO QQ CF xxX10 cg_X10_carry_0 := ctsO_cons rfl ct_X10_hasBale_0 (ctsO_cons rfl ct_X10_hasRoom_0 (ctsO_nil))
theorem ct_X10_carry_0 : ctrO QQ CF ck_X10_carry_0 mX10_carry := chk_ok (Q := QQ) (QP := QPl) (C := CF) (c := ck_X10_carry_0) (G := cg_X10_carry_0) (X := xxX10) (M := mX10_carry) (t := tX10_carry) (anns := ca_X10_carry_0) 1 xx10 pl10 rfl kX10_carry qq_ok cx_X10_carry_0 cc_X10_carry_0
def ck_X11_move_0 : AK := (4, [.inr (.inl [0]), .inl fr, .inl fr], [1, 2, 27], false, [([(.ofNat 0, .ofNat 11), (.ofNat 0, .ofNat 3)], .inl (.ofNat 1, .ofNat 1), []), ([fr, fr], .inl (.ofNat 0, .ofNat 0), [])], [])
def cg_X11_move_0 : List (Nat × AK) := [(138, ck_X6_note_0), (163, ck_X10_carry_0), (145, ck_X6_count_0)]
def ca_X11_move_0 : List (Nat × AA) := []
set_option maxRecDepth 100000 in
theorem cc_X11_move_0 : aChk QPl CF ck_X11_move_0 cg_X11_move_0 xxX11 mX11_move tX11_move ca_X11_move_0 [] 1 = true := by decide +kernel
theorem cx_X11_move_0 : ctsO QQ CF xxX11 cg_X11_move_0 := ctsO_cons rfl ct_X6_note_0 (ctsO_cons rfl ct_X10_carry_0 (ctsO_cons rfl ct_X6_count_0 (ctsO_nil)))
theorem ct_X11_move_0 : ctrO QQ CF ck_X11_move_0 mX11_move := chk_ok (Q := QQ) (QP := QPl) (C := CF) (c := ck_X11_move_0) (G := cg_X11_move_0) (X := xxX11) (M := mX11_move) (t := tX11_move) (anns := ca_X11_move_0) 1 xx11 pl11 rfl kX11_move qq_ok cx_X11_move_0 cc_X11_move_0
def ck_X2_describe_0 : AK := (1, [.inr (.inl [23]), .inl fr, .inl fr, .inl fr, .inl fr], [24], false, [([fr, fr, fr, fr], .inr (.inr 9), [])], [])
def cg_X2_describe_0 : List (Nat × AK) := []
def ca_X2_describe_0 : List (Nat × AA) := []
set_option maxRecDepth 100000 in
theorem cc_X2_describe_0 : aChk QPl CF ck_X2_describe_0 cg_X2_describe_0 xxX2 mX2_describe tX2_describe ca_X2_describe_0 [] 1 = true := by decide +kernel
theorem cx_X2_describe_0 : ctsO QQ CF xxX2 cg_X2_describe_0 := ctsO_nil
theorem ct_X2_describe_0 : ctrO QQ CF ck_X2_describe_0 mX2_describe := chk_ok (Q := QQ) (QP := QPl) (C := CF) (c := ck_X2_describe_0) (G := cg_X2_describe_0) (X := xxX2) (M := mX2_describe) (t := tX2_describe) (anns := ca_X2_describe_0) 1 xx2 pl2 rfl kX2_describe qq_ok cx_X2_describe_0 cc_X2_describe_0
def ck_X2_price_0 : AK := (2, [.inr (.inl [23]), .inl fr, .inl fr], [24], false, [([fr, fr], .inl (.ofNat 0, .ofNat 0), []), ([fr, fr], .inl fr, [])], [])
def cg_X2_price_0 : List (Nat × AK) := [(42, ck_X8_hasLaw_0), (54, ck_X2_run_0)]
def ca_X2_price_0 : List (Nat × AA) := []
set_option maxRecDepth 100000 in
theorem cc_X2_price_0 : aChk QPl CF ck_X2_price_0 cg_X2_price_0 xxX2 mX2_price tX2_price ca_X2_price_0 [] 1 = true := by decide +kernel
theorem cx_X2_price_0 : ctsO QQ CF xxX2 cg_X2_price_0 := ctsO_cons rfl ct_X8_hasLaw_0 (ctsO_cons rfl ct_X2_run_0 (ctsO_nil))
theorem ct_X2_price_0 : ctrO QQ CF ck_X2_price_0 mX2_price := chk_ok (Q := QQ) (QP := QPl) (C := CF) (c := ck_X2_price_0) (G := cg_X2_price_0) (X := xxX2) (M := mX2_price) (t := tX2_price) (anns := ca_X2_price_0) 1 xx2 pl2 rfl kX2_price qq_ok cx_X2_price_0 cc_X2_price_0
def ck_X10_sellsOf_0 : AK := (3, [.inr (.inl [26]), .inl fr], [24], false, [([fr], .inl (.ofNat 0, .ofNat 0), []), ([(.ofNat 0, .ofNat 11)], .inl fr, [])], [])
def cg_X10_sellsOf_0 : List (Nat × AK) := [(63, ck_X10_hasBale_0), (69, ck_X2_describe_0), (76, ck_X2_price_0)]
def ca_X10_sellsOf_0 : List (Nat × AA) := []
set_option maxRecDepth 100000 in
theorem cc_X10_sellsOf_0 : aChk QPl CF ck_X10_sellsOf_0 cg_X10_sellsOf_0 xxX10 mX10_sellsOf tX10_sellsOf ca_X10_sellsOf_0 [] 1 = true := by decide +kernel
theorem cx_X10_sellsOf_0 : ctsO QQ CF xxX10 cg_X10_sellsOf_0 := ctsO_cons rfl ct_X10_hasBale_0 (ctsO_cons rfl ct_X2_describe_0 (ctsO_cons rfl ct_X2_price_0 (ctsO_nil)))
theorem ct_X10_sellsOf_0 : ctrO QQ CF ck_X10_sellsOf_0 mX10_sellsOf := chk_ok (Q := QQ) (QP := QPl) (C := CF) (c := ck_X10_sellsOf_0) (G := cg_X10_sellsOf_0) (X := xxX10) (M := mX10_sellsOf) (t := tX10_sellsOf) (anns := ca_X10_sellsOf_0) 1 xx10 pl10 rfl kX10_sellsOf qq_ok cx_X10_sellsOf_0 cc_X10_sellsOf_0
def ck_X10_sellOff_0 : AK := (4, [.inr (.inl [26]), .inl fr], [24, 27], false, [([(.ofNat 0, .ofNat 11)], .inl (.ofNat 0, .ofNat 0), []), ([(.ofNat 0, .ofNat 11)], .inl fr, []), ([fr], .inl (.negSucc 0, .negSucc 0), [])], [])
def cg_X10_sellOff_0 : List (Nat × AK) := [(63, ck_X10_hasBale_0), (122, ck_X10_sellsOf_0)]
def ca_X10_sellOff_0 : List (Nat × AA) := []
set_option maxRecDepth 100000 in
theorem cc_X10_sellOff_0 : aChk QPl CF ck_X10_sellOff_0 cg_X10_sellOff_0 xxX10 mX10_sellOff tX10_sellOff ca_X10_sellOff_0 [] 1 = true := by decide +kernel
theorem cx_X10_sellOff_0 : ctsO QQ CF xxX10 cg_X10_sellOff_0 := ctsO_cons rfl ct_X10_hasBale_0 (ctsO_cons rfl ct_X10_sellsOf_0 (ctsO_nil))
theorem ct_X10_sellOff_0 : ctrO QQ CF ck_X10_sellOff_0 mX10_sellOff := chk_ok (Q := QQ) (QP := QPl) (C := CF) (c := ck_X10_sellOff_0) (G := cg_X10_sellOff_0) (X := xxX10) (M := mX10_sellOff) (t := tX10_sellOff) (anns := ca_X10_sellOff_0) 1 xx10 pl10 rfl kX10_sellOff qq_ok cx_X10_sellOff_0 cc_X10_sellOff_0
def ck_X11_sell_0 : AK := (5, [.inr (.inl [0]), .inl fr], [1, 2, 24, 27], false, [([(.ofNat 0, .ofNat 11)], .inl (.ofNat 0, .ofNat 0), []), ([fr], .inl (.negSucc 0, .negSucc 0), []), ([(.ofNat 0, .ofNat 11)], .inl fr, [])], [])
def cg_X11_sell_0 : List (Nat × AK) := [(138, ck_X6_note_0), (166, ck_X10_sellOff_0), (145, ck_X6_count_0)]
def ca_X11_sell_0 : List (Nat × AA) := []
set_option maxRecDepth 100000 in
theorem cc_X11_sell_0 : aChk QPl CF ck_X11_sell_0 cg_X11_sell_0 xxX11 mX11_sell tX11_sell ca_X11_sell_0 [] 1 = true := by decide +kernel
theorem cx_X11_sell_0 : ctsO QQ CF xxX11 cg_X11_sell_0 := ctsO_cons rfl ct_X6_note_0 (ctsO_cons rfl ct_X10_sellOff_0 (ctsO_cons rfl ct_X6_count_0 (ctsO_nil)))
theorem ct_X11_sell_0 : ctrO QQ CF ck_X11_sell_0 mX11_sell := chk_ok (Q := QQ) (QP := QPl) (C := CF) (c := ck_X11_sell_0) (G := cg_X11_sell_0) (X := xxX11) (M := mX11_sell) (t := tX11_sell) (anns := ca_X11_sell_0) 1 xx11 pl11 rfl kX11_sell qq_ok cx_X11_sell_0 cc_X11_sell_0
def ck_X11_within_4 : AK := (1, [.inl fr, .inl (.ofNat 1, .ofNat 1), .inl (.ofNat 60, .ofNat 60)], [], false, [([(.ofNat 1, .ofNat 60), (.ofNat 1, .ofNat 1), (.ofNat 60, .ofNat 60)], .inl (.ofNat 1, .ofNat 1), []), ([fr, (.ofNat 1, .ofNat 1), (.ofNat 60, .ofNat 60)], .inl (.ofNat 0, .ofNat 0), [])], [])
def cg_X11_within_4 : List (Nat × AK) := []
def ca_X11_within_4 : List (Nat × AA) := []
set_option maxRecDepth 100000 in
theorem cc_X11_within_4 : aChk QPl CF ck_X11_within_4 cg_X11_within_4 xxX11 mX11_within tX11_within ca_X11_within_4 [] 1 = true := by decide +kernel
theorem cx_X11_within_4 : ctsO QQ CF xxX11 cg_X11_within_4 := ctsO_nil
theorem ct_X11_within_4 : ctrO QQ CF ck_X11_within_4 mX11_within := chk_ok (Q := QQ) (QP := QPl) (C := CF) (c := ck_X11_within_4) (G := cg_X11_within_4) (X := xxX11) (M := mX11_within) (t := tX11_within) (anns := ca_X11_within_4) 1 xx11 pl11 rfl kX11_within qq_ok cx_X11_within_4 cc_X11_within_4
def ck_X10_hoursLeft_0 : AK := (1, [.inr (.inl [26])], [], false, [([], .inl fr, [])], [])
def cg_X10_hoursLeft_0 : List (Nat × AK) := []
def ca_X10_hoursLeft_0 : List (Nat × AA) := []
set_option maxRecDepth 100000 in
theorem cc_X10_hoursLeft_0 : aChk QPl CF ck_X10_hoursLeft_0 cg_X10_hoursLeft_0 xxX10 mX10_hoursLeft tX10_hoursLeft ca_X10_hoursLeft_0 [] 1 = true := by decide +kernel
theorem cx_X10_hoursLeft_0 : ctsO QQ CF xxX10 cg_X10_hoursLeft_0 := ctsO_nil
theorem ct_X10_hoursLeft_0 : ctrO QQ CF ck_X10_hoursLeft_0 mX10_hoursLeft := chk_ok (Q := QQ) (QP := QPl) (C := CF) (c := ck_X10_hoursLeft_0) (G := cg_X10_hoursLeft_0) (X := xxX10) (M := mX10_hoursLeft) (t := tX10_hoursLeft) (anns := ca_X10_hoursLeft_0) 1 xx10 pl10 rfl kX10_hoursLeft qq_ok cx_X10_hoursLeft_0 cc_X10_hoursLeft_0
def ck_X10_draw_0 : AK := (1, [.inr (.inl [26]), .inl fr], [27], false, [([(.ofNat 1, .ofNat 2147483647)], .inl (.negSucc 2147483645, .ofNat 2147483646), []), ([(.negSucc 2147483647, .ofNat 0)], .inl (.ofNat 0, .ofNat 0), [])], [])
def cg_X10_draw_0 : List (Nat × AK) := []
def ca_X10_draw_0 : List (Nat × AA) := []
set_option maxRecDepth 100000 in
theorem cc_X10_draw_0 : aChk QPl CF ck_X10_draw_0 cg_X10_draw_0 xxX10 mX10_draw tX10_draw ca_X10_draw_0 [] 1 = true := by decide +kernel
theorem cx_X10_draw_0 : ctsO QQ CF xxX10 cg_X10_draw_0 := ctsO_nil
theorem ct_X10_draw_0 : ctrO QQ CF ck_X10_draw_0 mX10_draw := chk_ok (Q := QQ) (QP := QPl) (C := CF) (c := ck_X10_draw_0) (G := cg_X10_draw_0) (X := xxX10) (M := mX10_draw) (t := tX10_draw) (anns := ca_X10_draw_0) 1 xx10 pl10 rfl kX10_draw qq_ok cx_X10_draw_0 cc_X10_draw_0
def ck_X2_growth_0 : AK := (2, [.inr (.inl [23]), .inl fr, .inl fr, .inl fr, .inl fr], [24], false, [([fr, fr, fr, fr], .inl (.ofNat 0, .ofNat 10), []), ([fr, fr, fr, fr], .inl fr, [])], [])
def cg_X2_growth_0 : List (Nat × AK) := [(42, ck_X8_hasLaw_0), (38, ck_X2_describeThing_0), (54, ck_X2_run_0)]
def ca_X2_growth_0 : List (Nat × AA) := []
set_option maxRecDepth 100000 in
theorem cc_X2_growth_0 : aChk QPl CF ck_X2_growth_0 cg_X2_growth_0 xxX2 mX2_growth tX2_growth ca_X2_growth_0 [] 1 = true := by decide +kernel
theorem cx_X2_growth_0 : ctsO QQ CF xxX2 cg_X2_growth_0 := ctsO_cons rfl ct_X8_hasLaw_0 (ctsO_cons rfl ct_X2_describeThing_0 (ctsO_cons rfl ct_X2_run_0 (ctsO_nil)))
theorem ct_X2_growth_0 : ctrO QQ CF ck_X2_growth_0 mX2_growth := chk_ok (Q := QQ) (QP := QPl) (C := CF) (c := ck_X2_growth_0) (G := cg_X2_growth_0) (X := xxX2) (M := mX2_growth) (t := tX2_growth) (anns := ca_X2_growth_0) 1 xx2 pl2 rfl kX2_growth qq_ok cx_X2_growth_0 cc_X2_growth_0
def ck_X10_growsOf_0 : AK := (3, [.inr (.inl [26]), .inl fr], [24], false, [([fr], .inl (.ofNat 0, .ofNat 10), []), ([(.ofNat 0, .ofNat 7)], .inl fr, [])], [])
def cg_X10_growsOf_0 : List (Nat × AK) := [(46, ck_X9_hasThing_0), (55, ck_X2_growth_0)]
def ca_X10_growsOf_0 : List (Nat × AA) := []
set_option maxRecDepth 100000 in
theorem cc_X10_growsOf_0 : aChk QPl CF ck_X10_growsOf_0 cg_X10_growsOf_0 xxX10 mX10_growsOf tX10_growsOf ca_X10_growsOf_0 [] 1 = true := by decide +kernel
theorem cx_X10_growsOf_0 : ctsO QQ CF xxX10 cg_X10_growsOf_0 := ctsO_cons rfl ct_X9_hasThing_0 (ctsO_cons rfl ct_X2_growth_0 (ctsO_nil))
theorem ct_X10_growsOf_0 : ctrO QQ CF ck_X10_growsOf_0 mX10_growsOf := chk_ok (Q := QQ) (QP := QPl) (C := CF) (c := ck_X10_growsOf_0) (G := cg_X10_growsOf_0) (X := xxX10) (M := mX10_growsOf) (t := tX10_growsOf) (anns := ca_X10_growsOf_0) 1 xx10 pl10 rfl kX10_growsOf qq_ok cx_X10_growsOf_0 cc_X10_growsOf_0
def ck_X10_balesIn_0 : AK := (1, [.inr (.inl [26]), .inl fr], [], false, [([fr], .inl fr, [])], [])
def cg_X10_balesIn_0 : List (Nat × AK) := []
def ca_X10_balesIn_0 : List (Nat × AA) := [(4, [(.ofNat 0, .ofNat 0), fr, fr, (.ofNat 0, .ofNat 12)], [.inr (.inl [26]), .inl (1, .ofNat 0), .inl (2, .ofNat 0), .inl (3, .ofNat 0)], [], [], [(0, 2, 0), (0, 3, 0)], (.ofNat 12, [.ofNat 0, .ofNat 0, .ofNat 0, .negSucc 0]))]
set_option maxRecDepth 100000 in
theorem cc_X10_balesIn_0 : aChk QPl CF ck_X10_balesIn_0 cg_X10_balesIn_0 xxX10 mX10_balesIn tX10_balesIn ca_X10_balesIn_0 [] 13 = true := by decide +kernel
theorem cx_X10_balesIn_0 : ctsO QQ CF xxX10 cg_X10_balesIn_0 := ctsO_nil
theorem ct_X10_balesIn_0 : ctrO QQ CF ck_X10_balesIn_0 mX10_balesIn := chk_ok (Q := QQ) (QP := QPl) (C := CF) (c := ck_X10_balesIn_0) (G := cg_X10_balesIn_0) (X := xxX10) (M := mX10_balesIn) (t := tX10_balesIn) (anns := ca_X10_balesIn_0) 13 xx10 pl10 rfl kX10_balesIn qq_ok cx_X10_balesIn_0 cc_X10_balesIn_0
def ck_X2_spoiling_0 : AK := (2, [.inr (.inl [23]), .inl fr], [24], false, [([fr], .inl (.ofNat 0, .ofNat 1), []), ([fr], .inl fr, [])], [])
def cg_X2_spoiling_0 : List (Nat × AK) := [(42, ck_X8_hasLaw_0), (54, ck_X2_run_0)]
def ca_X2_spoiling_0 : List (Nat × AA) := []
set_option maxRecDepth 100000 in
theorem cc_X2_spoiling_0 : aChk QPl CF ck_X2_spoiling_0 cg_X2_spoiling_0 xxX2 mX2_spoiling tX2_spoiling ca_X2_spoiling_0 [] 1 = true := by decide +kernel
theorem cx_X2_spoiling_0 : ctsO QQ CF xxX2 cg_X2_spoiling_0 := ctsO_cons rfl ct_X8_hasLaw_0 (ctsO_cons rfl ct_X2_run_0 (ctsO_nil))
theorem ct_X2_spoiling_0 : ctrO QQ CF ck_X2_spoiling_0 mX2_spoiling := chk_ok (Q := QQ) (QP := QPl) (C := CF) (c := ck_X2_spoiling_0) (G := cg_X2_spoiling_0) (X := xxX2) (M := mX2_spoiling) (t := tX2_spoiling) (anns := ca_X2_spoiling_0) 1 xx2 pl2 rfl kX2_spoiling qq_ok cx_X2_spoiling_0 cc_X2_spoiling_0
def ck_X10_spoilsOf_0 : AK := (3, [.inr (.inl [26]), .inl fr], [24], false, [([fr], .inl (.ofNat 0, .ofNat 1), []), ([(.ofNat 0, .ofNat 11)], .inl fr, [])], [])
def cg_X10_spoilsOf_0 : List (Nat × AK) := [(63, ck_X10_hasBale_0), (66, ck_X10_balesIn_0), (69, ck_X2_describe_0), (73, ck_X2_spoiling_0)]
def ca_X10_spoilsOf_0 : List (Nat × AA) := []
set_option maxRecDepth 100000 in
theorem cc_X10_spoilsOf_0 : aChk QPl CF ck_X10_spoilsOf_0 cg_X10_spoilsOf_0 xxX10 mX10_spoilsOf tX10_spoilsOf ca_X10_spoilsOf_0 [] 1 = true := by decide +kernel
theorem cx_X10_spoilsOf_0 : ctsO QQ CF xxX10 cg_X10_spoilsOf_0 := ctsO_cons rfl ct_X10_hasBale_0 (ctsO_cons rfl ct_X10_balesIn_0 (ctsO_cons rfl ct_X2_describe_0 (ctsO_cons rfl ct_X2_spoiling_0 (ctsO_nil))))
theorem ct_X10_spoilsOf_0 : ctrO QQ CF ck_X10_spoilsOf_0 mX10_spoilsOf := chk_ok (Q := QQ) (QP := QPl) (C := CF) (c := ck_X10_spoilsOf_0) (G := cg_X10_spoilsOf_0) (X := xxX10) (M := mX10_spoilsOf) (t := tX10_spoilsOf) (anns := ca_X10_spoilsOf_0) 1 xx10 pl10 rfl kX10_spoilsOf qq_ok cx_X10_spoilsOf_0 cc_X10_spoilsOf_0
def ck_X10_passHour_0 : AK := (4, [.inr (.inl [26])], [24, 27], false, [([], .inl (.ofNat 0, .ofNat 0), []), ([], .inl (.ofNat 1, .ofNat 1), [])], [])
def cg_X10_passHour_0 : List (Nat × AK) := [(125, ck_X10_hoursLeft_0), (128, ck_X10_draw_0), (135, ck_X10_growsOf_0), (138, ck_X10_spoilsOf_0), (118, ck_X10_shorten_0)]
def ca_X10_passHour_0 : List (Nat × AA) := [(11, [(.ofNat 0, .ofNat 0), (.ofNat 0, .ofNat 4)], [.inr (.inl [26]), .inl (1, .ofNat 0)], [], [], [(0, 1, 0)], (.ofNat 26, [.ofNat 0, .negSucc 0])), (91, [(.ofNat 0, .ofNat 0), (.ofNat 0, .ofNat 8), (.negSucc 2147483645, .ofNat 2147483646)], [.inr (.inl [26]), .inl (1, .ofNat 0)], [], [(27, 66, 2, .ofNat 0)], [(0, 1, 0), (2, 27, 66)], (.ofNat 21, [.ofNat 0, .negSucc 0, .ofNat 0])), (155, [(.ofNat 0, .ofNat 0), (.ofNat 0, .ofNat 12), (.ofNat 0, .ofNat 8)], [.inr (.inl [26]), .inl (1, .ofNat 0)], [], [(12, 5, 2, .ofNat 0)], [(0, 1, 0), (2, 12, 5)], (.ofNat 12, [.ofNat 0, .negSucc 0, .ofNat 0]))]
set_option maxRecDepth 100000 in
theorem cc_X10_passHour_0 : aChk QPl CF ck_X10_passHour_0 cg_X10_passHour_0 xxX10 mX10_passHour tX10_passHour ca_X10_passHour_0 [] 27 = true := by decide +kernel
theorem cx_X10_passHour_0 : ctsO QQ CF xxX10 cg_X10_passHour_0 := ctsO_cons rfl ct_X10_hoursLeft_0 (ctsO_cons rfl ct_X10_draw_0 (ctsO_cons rfl ct_X10_growsOf_0 (ctsO_cons rfl ct_X10_spoilsOf_0 (ctsO_cons rfl ct_X10_shorten_0 (ctsO_nil)))))
theorem ct_X10_passHour_0 : ctrO QQ CF ck_X10_passHour_0 mX10_passHour := chk_ok (Q := QQ) (QP := QPl) (C := CF) (c := ck_X10_passHour_0) (G := cg_X10_passHour_0) (X := xxX10) (M := mX10_passHour) (t := tX10_passHour) (anns := ca_X10_passHour_0) 27 xx10 pl10 rfl kX10_passHour qq_ok cx_X10_passHour_0 cc_X10_passHour_0
def ck_X11_passHours_0 : AK := (5, [.inr (.inl [0]), .inl fr], [1, 2, 24, 27], false, [([fr], .inl fr, [])], [])
def cg_X11_passHours_0 : List (Nat × AK) := [(138, ck_X6_note_0), (176, ck_X10_passHour_0), (145, ck_X6_count_0)]
def ca_X11_passHours_0 : List (Nat × AA) := [(4, [(.ofNat 0, .ofNat 0), fr, fr, (.ofNat 0, .ofNat 2147483647)], [.inr (.inl [0]), .inl (1, .ofNat 0), .inl (2, .ofNat 0), .inl (3, .ofNat 0)], [], [], [(0, 2, 0), (0, 3, 0)], (.ofNat 2147483647, [.ofNat 0, .ofNat 0, .ofNat 0, .negSucc 0]))]
set_option maxRecDepth 100000 in
theorem cc_X11_passHours_0 : aChk QPl CF ck_X11_passHours_0 cg_X11_passHours_0 xxX11 mX11_passHours tX11_passHours ca_X11_passHours_0 [] 2147483648 = true := by decide +kernel
theorem cx_X11_passHours_0 : ctsO QQ CF xxX11 cg_X11_passHours_0 := ctsO_cons rfl ct_X6_note_0 (ctsO_cons rfl ct_X10_passHour_0 (ctsO_cons rfl ct_X6_count_0 (ctsO_nil)))
theorem ct_X11_passHours_0 : ctrO QQ CF ck_X11_passHours_0 mX11_passHours := chk_ok (Q := QQ) (QP := QPl) (C := CF) (c := ck_X11_passHours_0) (G := cg_X11_passHours_0) (X := xxX11) (M := mX11_passHours) (t := tX11_passHours) (anns := ca_X11_passHours_0) 2147483648 xx11 pl11 rfl kX11_passHours qq_ok cx_X11_passHours_0 cc_X11_passHours_0
def ck_X11_hour_0 : AK := (6, [.inr (.inl [0]), .inl fr], [1, 2, 24, 27], false, [([fr], .inl (.negSucc 0, .negSucc 0), []), ([(.ofNat 1, .ofNat 60)], .inl fr, [])], [])
def cg_X11_hour_0 : List (Nat × AK) := [(120, ck_X11_within_4), (169, ck_X10_hoursLeft_0), (173, ck_X11_passHours_0)]
def ca_X11_hour_0 : List (Nat × AA) := []
set_option maxRecDepth 100000 in
theorem cc_X11_hour_0 : aChk QPl CF ck_X11_hour_0 cg_X11_hour_0 xxX11 mX11_hour tX11_hour ca_X11_hour_0 [] 1 = true := by decide +kernel
theorem cx_X11_hour_0 : ctsO QQ CF xxX11 cg_X11_hour_0 := ctsO_cons rfl ct_X11_within_4 (ctsO_cons rfl ct_X10_hoursLeft_0 (ctsO_cons rfl ct_X11_passHours_0 (ctsO_nil)))
theorem ct_X11_hour_0 : ctrO QQ CF ck_X11_hour_0 mX11_hour := chk_ok (Q := QQ) (QP := QPl) (C := CF) (c := ck_X11_hour_0) (G := cg_X11_hour_0) (X := xxX11) (M := mX11_hour) (t := tX11_hour) (anns := ca_X11_hour_0) 1 xx11 pl11 rfl kX11_hour qq_ok cx_X11_hour_0 cc_X11_hour_0
def ck_X11_within_5 : AK := (1, [.inl fr, .inl (.ofNat 0, .ofNat 0), .inl (.ofNat 9999, .ofNat 9999)], [], false, [([(.ofNat 0, .ofNat 9999), (.ofNat 0, .ofNat 0), (.ofNat 9999, .ofNat 9999)], .inl (.ofNat 1, .ofNat 1), []), ([fr, (.ofNat 0, .ofNat 0), (.ofNat 9999, .ofNat 9999)], .inl (.ofNat 0, .ofNat 0), [])], [])
def cg_X11_within_5 : List (Nat × AK) := []
def ca_X11_within_5 : List (Nat × AA) := []
set_option maxRecDepth 100000 in
theorem cc_X11_within_5 : aChk QPl CF ck_X11_within_5 cg_X11_within_5 xxX11 mX11_within tX11_within ca_X11_within_5 [] 1 = true := by decide +kernel
theorem cx_X11_within_5 : ctsO QQ CF xxX11 cg_X11_within_5 := ctsO_nil
theorem ct_X11_within_5 : ctrO QQ CF ck_X11_within_5 mX11_within := chk_ok (Q := QQ) (QP := QPl) (C := CF) (c := ck_X11_within_5) (G := cg_X11_within_5) (X := xxX11) (M := mX11_within) (t := tX11_within) (anns := ca_X11_within_5) 1 xx11 pl11 rfl kX11_within qq_ok cx_X11_within_5 cc_X11_within_5
def ck_X11_within_6 : AK := (1, [.inl fr, .inl (.ofNat 1, .ofNat 1), .inl (.ofNat 30, .ofNat 30)], [], false, [([(.ofNat 1, .ofNat 30), (.ofNat 1, .ofNat 1), (.ofNat 30, .ofNat 30)], .inl (.ofNat 1, .ofNat 1), []), ([fr, (.ofNat 1, .ofNat 1), (.ofNat 30, .ofNat 30)], .inl (.ofNat 0, .ofNat 0), [])], [])
def cg_X11_within_6 : List (Nat × AK) := []
def ca_X11_within_6 : List (Nat × AA) := []
set_option maxRecDepth 100000 in
theorem cc_X11_within_6 : aChk QPl CF ck_X11_within_6 cg_X11_within_6 xxX11 mX11_within tX11_within ca_X11_within_6 [] 1 = true := by decide +kernel
theorem cx_X11_within_6 : ctsO QQ CF xxX11 cg_X11_within_6 := ctsO_nil
theorem ct_X11_within_6 : ctrO QQ CF ck_X11_within_6 mX11_within := chk_ok (Q := QQ) (QP := QPl) (C := CF) (c := ck_X11_within_6) (G := cg_X11_within_6) (X := xxX11) (M := mX11_within) (t := tX11_within) (anns := ca_X11_within_6) 1 xx11 pl11 rfl kX11_within qq_ok cx_X11_within_6 cc_X11_within_6
def ck_X10_passDecade_0 : AK := (5, [.inr (.inl [26])], [24, 27], false, [([], .inr (.inr 9), [])], [])
def cg_X10_passDecade_0 : List (Nat × AK) := [(128, ck_X10_draw_0), (147, ck_X10_cutOff_0), (150, ck_X10_sellOff_0), (118, ck_X10_shorten_0), (153, ck_X10_passHour_0)]
def ca_X10_passDecade_0 : List (Nat × AA) := []
set_option maxRecDepth 100000 in
theorem cc_X10_passDecade_0 : aChk QPl CF ck_X10_passDecade_0 cg_X10_passDecade_0 xxX10 mX10_passDecade tX10_passDecade ca_X10_passDecade_0 [] 1 = true := by decide +kernel
theorem cx_X10_passDecade_0 : ctsO QQ CF xxX10 cg_X10_passDecade_0 := ctsO_cons rfl ct_X10_draw_0 (ctsO_cons rfl ct_X10_cutOff_0 (ctsO_cons rfl ct_X10_sellOff_0 (ctsO_cons rfl ct_X10_shorten_0 (ctsO_cons rfl ct_X10_passHour_0 (ctsO_nil)))))
theorem ct_X10_passDecade_0 : ctrO QQ CF ck_X10_passDecade_0 mX10_passDecade := chk_ok (Q := QQ) (QP := QPl) (C := CF) (c := ck_X10_passDecade_0) (G := cg_X10_passDecade_0) (X := xxX10) (M := mX10_passDecade) (t := tX10_passDecade) (anns := ca_X10_passDecade_0) 1 xx10 pl10 rfl kX10_passDecade qq_ok cx_X10_passDecade_0 cc_X10_passDecade_0
def ck_X11_decades_0 : AK := (6, [.inr (.inl [0]), .inl fr, .inl fr], [1, 2, 24, 27], false, [([fr, fr], .inl (.negSucc 0, .negSucc 0), []), ([(.ofNat 0, .ofNat 9999), (.ofNat 1, .ofNat 30)], .inl fr, [])], [])
def cg_X11_decades_0 : List (Nat × AK) := [(120, ck_X11_within_5), (120, ck_X11_within_6), (138, ck_X6_note_0), (189, ck_X10_passDecade_0), (145, ck_X6_count_0)]
def ca_X11_decades_0 : List (Nat × AA) := [(96, [(.ofNat 0, .ofNat 0), (.ofNat 0, .ofNat 9999), (.ofNat 1, .ofNat 30), (.ofNat 0, .ofNat 0), (.ofNat 0, .ofNat 30), (.ofNat 1, .ofNat 4), (.ofNat 1, .ofNat 4), (.ofNat 1, .ofNat 8)], [.inr (.inl [0]), .inl (1, .ofNat 0), .inl (2, .ofNat 0), .inl (3, .ofNat 0), .inl (4, .ofNat 0)], [], [(12, 7, 5, .ofNat 0), (12, 6, 6, .ofNat 0), (12, 5, 7, .ofNat 0)], [(0, 3, 0), (0, 4, 0), (2, 12, 7), (2, 12, 6), (2, 12, 5)], (.ofNat 30, [.ofNat 0, .ofNat 0, .ofNat 0, .ofNat 0, .negSucc 0, .ofNat 0, .ofNat 0, .ofNat 0]))]
set_option maxRecDepth 100000 in
theorem cc_X11_decades_0 : aChk QPl CF ck_X11_decades_0 cg_X11_decades_0 xxX11 mX11_decades tX11_decades ca_X11_decades_0 [] 31 = true := by decide +kernel
theorem cx_X11_decades_0 : ctsO QQ CF xxX11 cg_X11_decades_0 := ctsO_cons rfl ct_X11_within_5 (ctsO_cons rfl ct_X11_within_6 (ctsO_cons rfl ct_X6_note_0 (ctsO_cons rfl ct_X10_passDecade_0 (ctsO_cons rfl ct_X6_count_0 (ctsO_nil)))))
theorem ct_X11_decades_0 : ctrO QQ CF ck_X11_decades_0 mX11_decades := chk_ok (Q := QQ) (QP := QPl) (C := CF) (c := ck_X11_decades_0) (G := cg_X11_decades_0) (X := xxX11) (M := mX11_decades) (t := tX11_decades) (anns := ca_X11_decades_0) 31 xx11 pl11 rfl kX11_decades qq_ok cx_X11_decades_0 cc_X11_decades_0
def ck_X7_hasRoom_0 : AK := (1, [.inr (.inl [30]), .inl fr], [], false, [([fr], .inl (.ofNat 1, .ofNat 1), []), ([fr], .inl (.ofNat 0, .ofNat 0), [])], [])
def cg_X7_hasRoom_0 : List (Nat × AK) := []
def ca_X7_hasRoom_0 : List (Nat × AA) := []
set_option maxRecDepth 100000 in
theorem cc_X7_hasRoom_0 : aChk QPl CF ck_X7_hasRoom_0 cg_X7_hasRoom_0 xxX7 mX7_hasRoom tX7_hasRoom ca_X7_hasRoom_0 [] 1 = true := by decide +kernel
theorem cx_X7_hasRoom_0 : ctsO QQ CF xxX7 cg_X7_hasRoom_0 := ctsO_nil
theorem ct_X7_hasRoom_0 : ctrO QQ CF ck_X7_hasRoom_0 mX7_hasRoom := chk_ok (Q := QQ) (QP := QPl) (C := CF) (c := ck_X7_hasRoom_0) (G := cg_X7_hasRoom_0) (X := xxX7) (M := mX7_hasRoom) (t := tX7_hasRoom) (anns := ca_X7_hasRoom_0) 1 xx7 pl7 rfl kX7_hasRoom qq_ok cx_X7_hasRoom_0 cc_X7_hasRoom_0
def ck_X7_add_0 : AK := (1, [.inr (.inl [30]), .inl fr], [30, 31], false, [([fr], .inr (.inr 9), [])], [])
def cg_X7_add_0 : List (Nat × AK) := []
def ca_X7_add_0 : List (Nat × AA) := [(3, [(.ofNat 0, .ofNat 0), fr, (.negSucc 7, .ofNat 24)], [.inr (.inl [30]), .inl (1, .ofNat 0), .inl (2, .ofNat 0)], [], [], [(0, 2, 0)], (.ofNat 8, [.ofNat 0, .ofNat 0, .ofNat 1]))]
set_option maxRecDepth 100000 in
theorem cc_X7_add_0 : aChk QPl CF ck_X7_add_0 cg_X7_add_0 xxX7 mX7_add tX7_add ca_X7_add_0 [] 33 = true := by decide +kernel
theorem cx_X7_add_0 : ctsO QQ CF xxX7 cg_X7_add_0 := ctsO_nil
theorem ct_X7_add_0 : ctrO QQ CF ck_X7_add_0 mX7_add := chk_ok (Q := QQ) (QP := QPl) (C := CF) (c := ck_X7_add_0) (G := cg_X7_add_0) (X := xxX7) (M := mX7_add) (t := tX7_add) (anns := ca_X7_add_0) 33 xx7 pl7 rfl kX7_add qq_ok cx_X7_add_0 cc_X7_add_0
def ck_X11_feed_0 : AK := (2, [.inr (.inl [0]), .inl fr, .inl fr, .inl fr, .inl fr, .inl fr], [30, 31], false, [([fr, fr, fr, fr, fr], .inl (.ofNat 0, .ofNat 300), []), ([fr, fr, fr, fr, fr], .inl (.negSucc 0, .negSucc 0), [])], [])
def cg_X11_feed_0 : List (Nat × AK) := [(192, ck_X7_hasRoom_0), (195, ck_X7_add_0)]
def ca_X11_feed_0 : List (Nat × AA) := []
set_option maxRecDepth 100000 in
theorem cc_X11_feed_0 : aChk QPl CF ck_X11_feed_0 cg_X11_feed_0 xxX11 mX11_feed tX11_feed ca_X11_feed_0 [] 1 = true := by decide +kernel
theorem cx_X11_feed_0 : ctsO QQ CF xxX11 cg_X11_feed_0 := ctsO_cons rfl ct_X7_hasRoom_0 (ctsO_cons rfl ct_X7_add_0 (ctsO_nil))
theorem ct_X11_feed_0 : ctrO QQ CF ck_X11_feed_0 mX11_feed := chk_ok (Q := QQ) (QP := QPl) (C := CF) (c := ck_X11_feed_0) (G := cg_X11_feed_0) (X := xxX11) (M := mX11_feed) (t := tX11_feed) (anns := ca_X11_feed_0) 1 xx11 pl11 rfl kX11_feed qq_ok cx_X11_feed_0 cc_X11_feed_0
def ck_X11_within_7 : AK := (1, [.inl fr, .inl (.ofNat 0, .ofNat 0), .inl (.ofNat 0, .ofNat 300)], [], false, [([(.ofNat 0, .ofNat 300), (.ofNat 0, .ofNat 0), (.ofNat 0, .ofNat 300)], .inl (.ofNat 1, .ofNat 1), []), ([fr, (.ofNat 0, .ofNat 0), (.ofNat 0, .ofNat 300)], .inl (.ofNat 0, .ofNat 0), [])], [])
def cg_X11_within_7 : List (Nat × AK) := []
def ca_X11_within_7 : List (Nat × AA) := []
set_option maxRecDepth 100000 in
theorem cc_X11_within_7 : aChk QPl CF ck_X11_within_7 cg_X11_within_7 xxX11 mX11_within tX11_within ca_X11_within_7 [] 1 = true := by decide +kernel
theorem cx_X11_within_7 : ctsO QQ CF xxX11 cg_X11_within_7 := ctsO_nil
theorem ct_X11_within_7 : ctrO QQ CF ck_X11_within_7 mX11_within := chk_ok (Q := QQ) (QP := QPl) (C := CF) (c := ck_X11_within_7) (G := cg_X11_within_7) (X := xxX11) (M := mX11_within) (t := tX11_within) (anns := ca_X11_within_7) 1 xx11 pl11 rfl kX11_within qq_ok cx_X11_within_7 cc_X11_within_7
def ck_X11_end_0 : AK := (2, [.inr (.inl [0]), .inl fr], [30], false, [([(.ofNat 0, .ofNat 300)], .inl (.ofNat 0, .ofNat 300), []), ([fr], .inl (.negSucc 0, .negSucc 0), [])], [])
def cg_X11_end_0 : List (Nat × AK) := [(120, ck_X11_within_7)]
def ca_X11_end_0 : List (Nat × AA) := []
set_option maxRecDepth 100000 in
theorem cc_X11_end_0 : aChk QPl CF ck_X11_end_0 cg_X11_end_0 xxX11 mX11_end tX11_end ca_X11_end_0 [] 1 = true := by decide +kernel
theorem cx_X11_end_0 : ctsO QQ CF xxX11 cg_X11_end_0 := ctsO_cons rfl ct_X11_within_7 (ctsO_nil)
theorem ct_X11_end_0 : ctrO QQ CF ck_X11_end_0 mX11_end := chk_ok (Q := QQ) (QP := QPl) (C := CF) (c := ck_X11_end_0) (G := cg_X11_end_0) (X := xxX11) (M := mX11_end) (t := tX11_end) (anns := ca_X11_end_0) 1 xx11 pl11 rfl kX11_end qq_ok cx_X11_end_0 cc_X11_end_0
def ck_X11_textAt_0 : AK := (1, [.inr (.inl [0]), .inl fr], [], false, [([fr], .inr (.inl [18, 47, 52, 57, 62]), [])], [])
def cg_X11_textAt_0 : List (Nat × AK) := []
def ca_X11_textAt_0 : List (Nat × AA) := []
set_option maxRecDepth 100000 in
theorem cc_X11_textAt_0 : aChk QPl CF ck_X11_textAt_0 cg_X11_textAt_0 xxX11 mX11_textAt tX11_textAt ca_X11_textAt_0 [] 1 = true := by decide +kernel
theorem cx_X11_textAt_0 : ctsO QQ CF xxX11 cg_X11_textAt_0 := ctsO_nil
theorem ct_X11_textAt_0 : ctrO QQ CF ck_X11_textAt_0 mX11_textAt := chk_ok (Q := QQ) (QP := QPl) (C := CF) (c := ck_X11_textAt_0) (G := cg_X11_textAt_0) (X := xxX11) (M := mX11_textAt) (t := tX11_textAt) (anns := ca_X11_textAt_0) 1 xx11 pl11 rfl kX11_textAt qq_ok cx_X11_textAt_0 cc_X11_textAt_0
def ck_X8_clear_0 : AK := (1, [.inr (.inl [18])], [18, 20, 21], false, [([], .inr (.inr 9), [])], [])
def cg_X8_clear_0 : List (Nat × AK) := []
def ca_X8_clear_0 : List (Nat × AA) := [(12, [(.ofNat 0, .ofNat 0), (.ofNat 0, .ofNat 5), (.ofNat 0, .ofNat 0), (.ofNat 0, .ofNat 0)], [.inr (.inl [18]), .inl (1, .ofNat 0)], [], [(18, 5, 2, .ofNat 0), (18, 1, 3, .ofNat 0)], [(0, 1, 0), (2, 18, 5), (2, 18, 1)], (.ofNat 5, [.ofNat 0, .negSucc 0, .ofNat 0, .ofNat 0]))]
set_option maxRecDepth 100000 in
theorem cc_X8_clear_0 : aChk QPl CF ck_X8_clear_0 cg_X8_clear_0 xxX8 mX8_clear tX8_clear ca_X8_clear_0 [] 6 = true := by decide +kernel
theorem cx_X8_clear_0 : ctsO QQ CF xxX8 cg_X8_clear_0 := ctsO_nil
theorem ct_X8_clear_0 : ctrO QQ CF ck_X8_clear_0 mX8_clear := chk_ok (Q := QQ) (QP := QPl) (C := CF) (c := ck_X8_clear_0) (G := cg_X8_clear_0) (X := xxX8) (M := mX8_clear) (t := tX8_clear) (anns := ca_X8_clear_0) 6 xx8 pl8 rfl kX8_clear qq_ok cx_X8_clear_0 cc_X8_clear_0
def ck_X8_clear_1 : AK := (1, [.inr (.inl [47])], [47, 49, 50], false, [([], .inr (.inr 9), [])], [])
def cg_X8_clear_1 : List (Nat × AK) := []
def ca_X8_clear_1 : List (Nat × AA) := [(12, [(.ofNat 0, .ofNat 0), (.ofNat 0, .ofNat 5), (.ofNat 0, .ofNat 0), (.ofNat 0, .ofNat 0)], [.inr (.inl [47]), .inl (1, .ofNat 0)], [], [(47, 5, 2, .ofNat 0), (47, 1, 3, .ofNat 0)], [(0, 1, 0), (2, 47, 5), (2, 47, 1)], (.ofNat 5, [.ofNat 0, .negSucc 0, .ofNat 0, .ofNat 0]))]
set_option maxRecDepth 100000 in
theorem cc_X8_clear_1 : aChk QPl CF ck_X8_clear_1 cg_X8_clear_1 xxX8 mX8_clear tX8_clear ca_X8_clear_1 [] 6 = true := by decide +kernel
theorem cx_X8_clear_1 : ctsO QQ CF xxX8 cg_X8_clear_1 := ctsO_nil
theorem ct_X8_clear_1 : ctrO QQ CF ck_X8_clear_1 mX8_clear := chk_ok (Q := QQ) (QP := QPl) (C := CF) (c := ck_X8_clear_1) (G := cg_X8_clear_1) (X := xxX8) (M := mX8_clear) (t := tX8_clear) (anns := ca_X8_clear_1) 6 xx8 pl8 rfl kX8_clear qq_ok cx_X8_clear_1 cc_X8_clear_1
def ck_X8_clear_2 : AK := (1, [.inr (.inl [52])], [52, 54, 55], false, [([], .inr (.inr 9), [])], [])
def cg_X8_clear_2 : List (Nat × AK) := []
def ca_X8_clear_2 : List (Nat × AA) := [(12, [(.ofNat 0, .ofNat 0), (.ofNat 0, .ofNat 5), (.ofNat 0, .ofNat 0), (.ofNat 0, .ofNat 0)], [.inr (.inl [52]), .inl (1, .ofNat 0)], [], [(52, 5, 2, .ofNat 0), (52, 1, 3, .ofNat 0)], [(0, 1, 0), (2, 52, 5), (2, 52, 1)], (.ofNat 5, [.ofNat 0, .negSucc 0, .ofNat 0, .ofNat 0]))]
set_option maxRecDepth 100000 in
theorem cc_X8_clear_2 : aChk QPl CF ck_X8_clear_2 cg_X8_clear_2 xxX8 mX8_clear tX8_clear ca_X8_clear_2 [] 6 = true := by decide +kernel
theorem cx_X8_clear_2 : ctsO QQ CF xxX8 cg_X8_clear_2 := ctsO_nil
theorem ct_X8_clear_2 : ctrO QQ CF ck_X8_clear_2 mX8_clear := chk_ok (Q := QQ) (QP := QPl) (C := CF) (c := ck_X8_clear_2) (G := cg_X8_clear_2) (X := xxX8) (M := mX8_clear) (t := tX8_clear) (anns := ca_X8_clear_2) 6 xx8 pl8 rfl kX8_clear qq_ok cx_X8_clear_2 cc_X8_clear_2
def ck_X8_clear_3 : AK := (1, [.inr (.inl [57])], [57, 59, 60], false, [([], .inr (.inr 9), [])], [])
def cg_X8_clear_3 : List (Nat × AK) := []
def ca_X8_clear_3 : List (Nat × AA) := [(12, [(.ofNat 0, .ofNat 0), (.ofNat 0, .ofNat 5), (.ofNat 0, .ofNat 0), (.ofNat 0, .ofNat 0)], [.inr (.inl [57]), .inl (1, .ofNat 0)], [], [(57, 5, 2, .ofNat 0), (57, 1, 3, .ofNat 0)], [(0, 1, 0), (2, 57, 5), (2, 57, 1)], (.ofNat 5, [.ofNat 0, .negSucc 0, .ofNat 0, .ofNat 0]))]
set_option maxRecDepth 100000 in
theorem cc_X8_clear_3 : aChk QPl CF ck_X8_clear_3 cg_X8_clear_3 xxX8 mX8_clear tX8_clear ca_X8_clear_3 [] 6 = true := by decide +kernel
theorem cx_X8_clear_3 : ctsO QQ CF xxX8 cg_X8_clear_3 := ctsO_nil
theorem ct_X8_clear_3 : ctrO QQ CF ck_X8_clear_3 mX8_clear := chk_ok (Q := QQ) (QP := QPl) (C := CF) (c := ck_X8_clear_3) (G := cg_X8_clear_3) (X := xxX8) (M := mX8_clear) (t := tX8_clear) (anns := ca_X8_clear_3) 6 xx8 pl8 rfl kX8_clear qq_ok cx_X8_clear_3 cc_X8_clear_3
def ck_X8_clear_4 : AK := (1, [.inr (.inl [62])], [62, 64, 65], false, [([], .inr (.inr 9), [])], [])
def cg_X8_clear_4 : List (Nat × AK) := []
def ca_X8_clear_4 : List (Nat × AA) := [(12, [(.ofNat 0, .ofNat 0), (.ofNat 0, .ofNat 5), (.ofNat 0, .ofNat 0), (.ofNat 0, .ofNat 0)], [.inr (.inl [62]), .inl (1, .ofNat 0)], [], [(62, 5, 2, .ofNat 0), (62, 1, 3, .ofNat 0)], [(0, 1, 0), (2, 62, 5), (2, 62, 1)], (.ofNat 5, [.ofNat 0, .negSucc 0, .ofNat 0, .ofNat 0]))]
set_option maxRecDepth 100000 in
theorem cc_X8_clear_4 : aChk QPl CF ck_X8_clear_4 cg_X8_clear_4 xxX8 mX8_clear tX8_clear ca_X8_clear_4 [] 6 = true := by decide +kernel
theorem cx_X8_clear_4 : ctsO QQ CF xxX8 cg_X8_clear_4 := ctsO_nil
theorem ct_X8_clear_4 : ctrO QQ CF ck_X8_clear_4 mX8_clear := chk_ok (Q := QQ) (QP := QPl) (C := CF) (c := ck_X8_clear_4) (G := cg_X8_clear_4) (X := xxX8) (M := mX8_clear) (t := tX8_clear) (anns := ca_X8_clear_4) 6 xx8 pl8 rfl kX8_clear qq_ok cx_X8_clear_4 cc_X8_clear_4
def ck_X8_clear_5 : AK := (1, [.inr (.inl [18, 47, 52, 57, 62])], [18, 20, 21, 47, 49, 50, 52, 54, 55, 57, 59, 60, 62, 64, 65], false, [([], .inr (.inr 9), [])], [])
theorem ct_X8_clear_5 : ctrO QQ CF ck_X8_clear_5 mX8_clear := by
  refine ctr_uni (fun p hp => ?_)
  simp only [List.mem_cons, List.not_mem_nil, or_false] at hp
  rcases hp with rfl | rfl | rfl | rfl | rfl
  · exact ⟨_, _, ct_X8_clear_0, by decide, by decide⟩
  · exact ⟨_, _, ct_X8_clear_1, by decide, by decide⟩
  · exact ⟨_, _, ct_X8_clear_2, by decide, by decide⟩
  · exact ⟨_, _, ct_X8_clear_3, by decide, by decide⟩
  · exact ⟨_, _, ct_X8_clear_4, by decide, by decide⟩
def ck_X7_byteAt_0 : AK := (1, [.inr (.inl [30]), .inl fr], [], false, [([(.ofNat 0, .ofNat 299)], .inl fr, []), ([fr], .inl (.ofNat 0, .ofNat 0), [])], [])
def cg_X7_byteAt_0 : List (Nat × AK) := []
def ca_X7_byteAt_0 : List (Nat × AA) := []
set_option maxRecDepth 100000 in
theorem cc_X7_byteAt_0 : aChk QPl CF ck_X7_byteAt_0 cg_X7_byteAt_0 xxX7 mX7_byteAt tX7_byteAt ca_X7_byteAt_0 [] 1 = true := by decide +kernel
theorem cx_X7_byteAt_0 : ctsO QQ CF xxX7 cg_X7_byteAt_0 := ctsO_nil
theorem ct_X7_byteAt_0 : ctrO QQ CF ck_X7_byteAt_0 mX7_byteAt := chk_ok (Q := QQ) (QP := QPl) (C := CF) (c := ck_X7_byteAt_0) (G := cg_X7_byteAt_0) (X := xxX7) (M := mX7_byteAt) (t := tX7_byteAt) (anns := ca_X7_byteAt_0) 1 xx7 pl7 rfl kX7_byteAt qq_ok cx_X7_byteAt_0 cc_X7_byteAt_0
def ck_X7_isDigit_0 : AK := (1, [.inl fr], [], false, [([(.ofNat 48, .ofNat 57)], .inl (.ofNat 1, .ofNat 1), []), ([fr], .inl (.ofNat 0, .ofNat 0), [])], [])
def cg_X7_isDigit_0 : List (Nat × AK) := []
def ca_X7_isDigit_0 : List (Nat × AA) := []
set_option maxRecDepth 100000 in
theorem cc_X7_isDigit_0 : aChk QPl CF ck_X7_isDigit_0 cg_X7_isDigit_0 xxX7 mX7_isDigit tX7_isDigit ca_X7_isDigit_0 [] 1 = true := by decide +kernel
theorem cx_X7_isDigit_0 : ctsO QQ CF xxX7 cg_X7_isDigit_0 := ctsO_nil
theorem ct_X7_isDigit_0 : ctrO QQ CF ck_X7_isDigit_0 mX7_isDigit := chk_ok (Q := QQ) (QP := QPl) (C := CF) (c := ck_X7_isDigit_0) (G := cg_X7_isDigit_0) (X := xxX7) (M := mX7_isDigit) (t := tX7_isDigit) (anns := ca_X7_isDigit_0) 1 xx7 pl7 rfl kX7_isDigit qq_ok cx_X7_isDigit_0 cc_X7_isDigit_0
def ck_X7_endOfDigits_0 : AK := (2, [.inr (.inl [30]), .inl fr], [], false, [([fr], .inl (.ofNat 0, .ofNat 2147483647), []), ([fr], .inl (.negSucc 2147483647, .ofNat 299), [])], [])
def cg_X7_endOfDigits_0 : List (Nat × AK) := [(31, ck_X7_byteAt_0), (35, ck_X7_isDigit_0)]
def ca_X7_endOfDigits_0 : List (Nat × AA) := [(2, [(.ofNat 0, .ofNat 0), fr, fr], [.inr (.inl [30]), .inl (1, .ofNat 0), .inl (2, .ofNat 0)], [], [], [(0, 2, 0)], (.ofNat 2147483647, [.ofNat 0, .ofNat 0, .negSucc 0]))]
set_option maxRecDepth 100000 in
theorem cc_X7_endOfDigits_0 : aChk QPl CF ck_X7_endOfDigits_0 cg_X7_endOfDigits_0 xxX7 mX7_endOfDigits tX7_endOfDigits ca_X7_endOfDigits_0 [] 4294967296 = true := by decide +kernel
theorem cx_X7_endOfDigits_0 : ctsO QQ CF xxX7 cg_X7_endOfDigits_0 := ctsO_cons rfl ct_X7_byteAt_0 (ctsO_cons rfl ct_X7_isDigit_0 (ctsO_nil))
theorem ct_X7_endOfDigits_0 : ctrO QQ CF ck_X7_endOfDigits_0 mX7_endOfDigits := chk_ok (Q := QQ) (QP := QPl) (C := CF) (c := ck_X7_endOfDigits_0) (G := cg_X7_endOfDigits_0) (X := xxX7) (M := mX7_endOfDigits) (t := tX7_endOfDigits) (anns := ca_X7_endOfDigits_0) 4294967296 xx7 pl7 rfl kX7_endOfDigits qq_ok cx_X7_endOfDigits_0 cc_X7_endOfDigits_0
def ck_X7_numberIn_0 : AK := (2, [.inr (.inl [30]), .inl fr, .inl fr], [], false, [([fr, fr], .inl (.negSucc 2147483647, .ofNat 10000), [])], [])
def cg_X7_numberIn_0 : List (Nat × AK) := [(31, ck_X7_byteAt_0)]
def ca_X7_numberIn_0 : List (Nat × AA) := [(5, [(.ofNat 0, .ofNat 0), fr, fr, (.negSucc 2147483647, .ofNat 10000), fr], [.inr (.inl [30]), .inl (1, .ofNat 0), .inl (2, .ofNat 0), .inl (3, .ofNat 0), .inl (4, .ofNat 0)], [], [], [(0, 3, 0), (0, 4, 0)], (.ofNat 2147483647, [.ofNat 0, .ofNat 0, .ofNat 0, .ofNat 0, .negSucc 0]))]
set_option maxRecDepth 100000 in
theorem cc_X7_numberIn_0 : aChk QPl CF ck_X7_numberIn_0 cg_X7_numberIn_0 xxX7 mX7_numberIn tX7_numberIn ca_X7_numberIn_0 [] 4294967296 = true := by decide +kernel
theorem cx_X7_numberIn_0 : ctsO QQ CF xxX7 cg_X7_numberIn_0 := ctsO_cons rfl ct_X7_byteAt_0 (ctsO_nil)
theorem ct_X7_numberIn_0 : ctrO QQ CF ck_X7_numberIn_0 mX7_numberIn := chk_ok (Q := QQ) (QP := QPl) (C := CF) (c := ck_X7_numberIn_0) (G := cg_X7_numberIn_0) (X := xxX7) (M := mX7_numberIn) (t := tX7_numberIn) (anns := ca_X7_numberIn_0) 4294967296 xx7 pl7 rfl kX7_numberIn qq_ok cx_X7_numberIn_0 cc_X7_numberIn_0
def ck_X7_addToken_0 : AK := (1, [.inr (.inl [30]), .inl fr, .inl fr, .inl fr], [30, 32, 33, 34], false, [([fr, fr, fr], .inr (.inr 9), [])], [])
def cg_X7_addToken_0 : List (Nat × AK) := []
def ca_X7_addToken_0 : List (Nat × AA) := []
set_option maxRecDepth 100000 in
theorem cc_X7_addToken_0 : aChk QPl CF ck_X7_addToken_0 cg_X7_addToken_0 xxX7 mX7_addToken tX7_addToken ca_X7_addToken_0 [] 1 = true := by decide +kernel
theorem cx_X7_addToken_0 : ctsO QQ CF xxX7 cg_X7_addToken_0 := ctsO_nil
theorem ct_X7_addToken_0 : ctrO QQ CF ck_X7_addToken_0 mX7_addToken := chk_ok (Q := QQ) (QP := QPl) (C := CF) (c := ck_X7_addToken_0) (G := cg_X7_addToken_0) (X := xxX7) (M := mX7_addToken) (t := tX7_addToken) (anns := ca_X7_addToken_0) 1 xx7 pl7 rfl kX7_addToken qq_ok cx_X7_addToken_0 cc_X7_addToken_0
def ck_X7_isLetter_0 : AK := (1, [.inl fr], [], false, [([fr], .inl (.ofNat 0, .ofNat 0), []), ([(.ofNat 65, .ofNat 122)], .inl (.ofNat 1, .ofNat 1), [])], [])
def cg_X7_isLetter_0 : List (Nat × AK) := []
def ca_X7_isLetter_0 : List (Nat × AA) := []
set_option maxRecDepth 100000 in
theorem cc_X7_isLetter_0 : aChk QPl CF ck_X7_isLetter_0 cg_X7_isLetter_0 xxX7 mX7_isLetter tX7_isLetter ca_X7_isLetter_0 [] 1 = true := by decide +kernel
theorem cx_X7_isLetter_0 : ctsO QQ CF xxX7 cg_X7_isLetter_0 := ctsO_nil
theorem ct_X7_isLetter_0 : ctrO QQ CF ck_X7_isLetter_0 mX7_isLetter := chk_ok (Q := QQ) (QP := QPl) (C := CF) (c := ck_X7_isLetter_0) (G := cg_X7_isLetter_0) (X := xxX7) (M := mX7_isLetter) (t := tX7_isLetter) (anns := ca_X7_isLetter_0) 1 xx7 pl7 rfl kX7_isLetter qq_ok cx_X7_isLetter_0 cc_X7_isLetter_0
def ck_J0_indexOf_0f7a4_0 : AK := (6, [.inr (.inl [900002]), .inl fr], [], false, [([fr], .inl fr, [])], [])
theorem ct_J0_indexOf_0f7a4_0 : ctrO QQ CF ck_J0_indexOf_0f7a4_0 mJ0_indexOf_0f7a4 := by
  intro l d sh I J as Rp ha hce hs hi hq hR
  obtain ⟨x, rfl, hx⟩ := ag1i ha
  exact js_ix l (d + 2) x sh I J Rp (hR _ sh I J hs (fun _ => rfl) hi hq (fun _ _ => rfl) ⟨_, List.mem_cons_self, one_post ha ⟨_, rfl, inI_fr _⟩⟩)
def ck_X7_endOfLetters_0 : AK := (2, [.inr (.inl [30]), .inl fr], [], false, [([fr], .inl (.ofNat 0, .ofNat 2147483647), []), ([fr], .inl (.negSucc 2147483647, .ofNat 299), [])], [])
def cg_X7_endOfLetters_0 : List (Nat × AK) := [(31, ck_X7_byteAt_0), (50, ck_X7_isLetter_0)]
def ca_X7_endOfLetters_0 : List (Nat × AA) := [(2, [(.ofNat 0, .ofNat 0), fr, fr], [.inr (.inl [30]), .inl (1, .ofNat 0), .inl (2, .ofNat 0)], [], [], [(0, 2, 0)], (.ofNat 2147483647, [.ofNat 0, .ofNat 0, .negSucc 0]))]
set_option maxRecDepth 100000 in
theorem cc_X7_endOfLetters_0 : aChk QPl CF ck_X7_endOfLetters_0 cg_X7_endOfLetters_0 xxX7 mX7_endOfLetters tX7_endOfLetters ca_X7_endOfLetters_0 [] 4294967296 = true := by decide +kernel
theorem cx_X7_endOfLetters_0 : ctsO QQ CF xxX7 cg_X7_endOfLetters_0 := ctsO_cons rfl ct_X7_byteAt_0 (ctsO_cons rfl ct_X7_isLetter_0 (ctsO_nil))
theorem ct_X7_endOfLetters_0 : ctrO QQ CF ck_X7_endOfLetters_0 mX7_endOfLetters := chk_ok (Q := QQ) (QP := QPl) (C := CF) (c := ck_X7_endOfLetters_0) (G := cg_X7_endOfLetters_0) (X := xxX7) (M := mX7_endOfLetters) (t := tX7_endOfLetters) (anns := ca_X7_endOfLetters_0) 4294967296 xx7 pl7 rfl kX7_endOfLetters qq_ok cx_X7_endOfLetters_0 cc_X7_endOfLetters_0
def ck_J0_length_8abf5_0 : AK := (3, [.inr (.inl [900001])], [], false, [([], .inl (.ofNat 192, .ofNat 192), [])], [])
theorem ct_J0_length_8abf5_0 : ctrO QQ CF ck_J0_length_8abf5_0 mJ0_length_8abf5 := by
  intro l d sh I J as Rp ha hce hs hi hq hR
  obtain rfl := ag1 ha
  exact js_length1 l (d + 1) sh I J Rp (hR _ sh I J hs (fun _ => rfl) hi hq (fun _ _ => rfl) ⟨_, List.mem_cons_self, one_post ha ⟨192, rfl, ⟨by decide, by decide⟩⟩⟩)
def ck_J0_charAt_5068e_0 : AK := (5, [.inr (.inl [900001]), .inl (.ofNat 0, .ofNat 191)], [], false, [([(.ofNat 0, .ofNat 191)], .inl fr, [])], [])
theorem ct_J0_charAt_5068e_0 : ctrO QQ CF ck_J0_charAt_5068e_0 mJ0_charAt_5068e := by
  intro l d sh I J as Rp ha hce hs hi hq hR
  obtain ⟨x, rfl, hx⟩ := ag1i ha
  obtain ⟨N, rfl, _, hN, _⟩ := nI_inI (a := 0) (b := 191) hx (by decide)
  exact js_charAt l (d + 1) N (by omega) sh I J Rp (hR _ sh I J hs (fun _ => rfl) hi hq (fun _ _ => rfl) ⟨_, List.mem_cons_self, one_post ha ⟨_, rfl, inI_fr _⟩⟩)
def ck_X7_isWord_0 : AK := (6, [.inr (.inl [30]), .inl fr, .inl fr, .inl fr], [], false, [([fr, fr, fr], .inl (.ofNat 0, .ofNat 0), []), ([fr, fr, fr], .inl (.ofNat 0, .ofNat 1), [])], [])
def cg_X7_isWord_0 : List (Nat × AK) := [(31, ck_X7_byteAt_0), (80, ck_J0_length_8abf5_0), (84, ck_J0_charAt_5068e_0)]
def ca_X7_isWord_0 : List (Nat × AA) := [(18, [(.ofNat 0, .ofNat 0), fr, fr, fr, (.ofNat 0, .ofNat 1), (.ofNat 0, .ofNat 6)], [.inr (.inl [30]), .inl (1, .ofNat 0), .inl (2, .ofNat 0), .inl (3, .ofNat 0), .inl (4, .ofNat 0), .inl (5, .ofNat 0), .inr (.inr 0), .inr (.inr 0)], [], [], [(0, 4, 0), (0, 5, 0)], (.ofNat 6, [.ofNat 0, .ofNat 0, .ofNat 0, .ofNat 0, .ofNat 0, .negSucc 0]))]
set_option maxRecDepth 100000 in
theorem cc_X7_isWord_0 : aChk QPl CF ck_X7_isWord_0 cg_X7_isWord_0 xxX7 mX7_isWord tX7_isWord ca_X7_isWord_0 [] 7 = true := by decide +kernel
theorem cx_X7_isWord_0 : ctsO QQ CF xxX7 cg_X7_isWord_0 := ctsO_cons rfl ct_X7_byteAt_0 (ctsO_cons rfl ct_J0_length_8abf5_0 (ctsO_cons rfl ct_J0_charAt_5068e_0 (ctsO_nil)))
theorem ct_X7_isWord_0 : ctrO QQ CF ck_X7_isWord_0 mX7_isWord := chk_ok (Q := QQ) (QP := QPl) (C := CF) (c := ck_X7_isWord_0) (G := cg_X7_isWord_0) (X := xxX7) (M := mX7_isWord) (t := tX7_isWord) (anns := ca_X7_isWord_0) 7 xx7 pl7 rfl kX7_isWord qq_ok cx_X7_isWord_0 cc_X7_isWord_0
def ck_X7_wordIn_0 : AK := (7, [.inr (.inl [30]), .inl fr, .inl fr], [], false, [([fr, fr], .inl (.ofNat 0, .ofNat 31), []), ([fr, fr], .inl (.negSucc 0, .negSucc 0), [])], [])
def cg_X7_wordIn_0 : List (Nat × AK) := [(74, ck_X7_isWord_0)]
def ca_X7_wordIn_0 : List (Nat × AA) := [(2, [(.ofNat 0, .ofNat 0), fr, fr, (.ofNat 0, .ofNat 39)], [.inr (.inl [30]), .inl (1, .ofNat 0), .inl (2, .ofNat 0), .inl (3, .ofNat 0)], [], [], [(0, 3, 0)], (.ofNat 39, [.ofNat 0, .ofNat 0, .ofNat 0, .negSucc 0]))]
set_option maxRecDepth 100000 in
theorem cc_X7_wordIn_0 : aChk QPl CF ck_X7_wordIn_0 cg_X7_wordIn_0 xxX7 mX7_wordIn tX7_wordIn ca_X7_wordIn_0 [] 40 = true := by decide +kernel
theorem cx_X7_wordIn_0 : ctsO QQ CF xxX7 cg_X7_wordIn_0 := ctsO_cons rfl ct_X7_isWord_0 (ctsO_nil)
theorem ct_X7_wordIn_0 : ctrO QQ CF ck_X7_wordIn_0 mX7_wordIn := chk_ok (Q := QQ) (QP := QPl) (C := CF) (c := ck_X7_wordIn_0) (G := cg_X7_wordIn_0) (X := xxX7) (M := mX7_wordIn) (t := tX7_wordIn) (anns := ca_X7_wordIn_0) 40 xx7 pl7 rfl kX7_wordIn qq_ok cx_X7_wordIn_0 cc_X7_wordIn_0
def ck_X7_split_0 : AK := (8, [.inr (.inl [30])], [30, 32, 33, 34], false, [([], .inr (.inr 9), [])], [])
def cg_X7_split_0 : List (Nat × AK) := [(31, ck_X7_byteAt_0), (35, ck_X7_isDigit_0), (39, ck_X7_endOfDigits_0), (42, ck_X7_numberIn_0), (46, ck_X7_addToken_0), (50, ck_X7_isLetter_0), (61, ck_J0_indexOf_0f7a4_0), (53, ck_X7_endOfLetters_0), (56, ck_X7_wordIn_0)]
def ca_X7_split_0_7 : Nat × AA := (7, [(.ofNat 0, .ofNat 0), (.ofNat 0, .ofNat 2147483647)], [.inr (.inl [30]), .inl (1, .ofNat 0), .inr (.inr 0), .inr (.inr 0)], [], [], [(0, 1, 0)], (.ofNat 4294967295, [.ofNat 0, .negSucc 1]))
def ca_X7_split_0_164 : Nat × AA := (164, [(.ofNat 0, .ofNat 0), (.ofNat 0, .ofNat 299), fr, fr], [.inr (.inl [30]), .inl (1, .ofNat 0), .inl (2, .ofNat 0), .inl (3, .ofNat 0)], [], [], [(0, 1, 0), (0, 2, 0), (0, 3, 0)], (.ofNat 4294967294, [.ofNat 0, .negSucc 1, .ofNat 0, .ofNat 0]))
def ca_X7_split_0 : List (Nat × AA) := [ca_X7_split_0_7, ca_X7_split_0_164]
set_option maxRecDepth 100000 in
theorem cc_X7_split_0 : aChk QPl CF ck_X7_split_0 cg_X7_split_0 xxX7 mX7_split tX7_split ca_X7_split_0 [164] 4294967296 = true := by decide +kernel
theorem cx_X7_split_0 : ctsO QQ CF xxX7 cg_X7_split_0 := ctsO_cons rfl ct_X7_byteAt_0 (ctsO_cons rfl ct_X7_isDigit_0 (ctsO_cons rfl ct_X7_endOfDigits_0 (ctsO_cons rfl ct_X7_numberIn_0 (ctsO_cons rfl ct_X7_addToken_0 (ctsO_cons rfl ct_X7_isLetter_0 (ctsO_cons rfl ct_J0_indexOf_0f7a4_0 (ctsO_cons rfl ct_X7_endOfLetters_0 (ctsO_cons rfl ct_X7_wordIn_0 (ctsO_nil)))))))))
set_option maxRecDepth 100000 in
theorem ce_X7_split_0_164 : ((List.range 300).all fun k => aN CF ck_X7_split_0.2.2.1 ck_X7_split_0.2.2.2.1 cg_X7_split_0 (ck_X7_split_0.1 - 1) ck_X7_split_0.2.2.2.2.1 xxX7 mX7_split.2.2.2 tX7_split (ca_X7_split_0.map fun q => q.1) (kkA CF ((aInts ck_X7_split_0.2.1).length + 1) ca_X7_split_0 (some ca_X7_split_0_164.2.2.2.2.2.2)) 164 (enS ca_X7_split_0_164.2 1 ((Int.ofNat 0 : Int) + (k : Int)))) = true := by decide +kernel
theorem seg_X7_split_0 : ∀ q, q ∈ ca_X7_split_0 → nmem q.1 [164] = true → ∀ (l : Launch) (d : Nat) (sh : List XO) (I : XI) (as : List Value) (Rp : XR), agO ck_X7_split_0.2.1 as → (∀ I2, frO ck_X7_split_0.2.2.1 I I2 → QQ I2) → outO QQ CF ck_X7_split_0.2.2.1 ck_X7_split_0.2.2.2.1 sh I ck_X7_split_0.2.2.2.2.1 as Rp → segO CF ck_X7_split_0.2.2.1 ck_X7_split_0.2.2.2.1 sh I xxX7 mX7_split.2.2.2 (!(Nat.beq 0 0)) sh.length 0 0 l (d + (ck_X7_split_0.1 - 1)) tX7_split (ca_X7_split_0.map fun q => q.1) Rp as ca_X7_split_0 (aInts ck_X7_split_0.2.1).length q := by
  intro q hq hz l d sh0 I0 as Rp ha hQ hO
  simp only [ca_X7_split_0, List.mem_cons, List.not_mem_nil, or_false] at hq
  rcases hq with rfl | rfl
  · exact absurd hz (by decide)
  · exact seg_enum hQ cx_X7_split_0 hO 1 299 (Int.ofNat 0 : Int) rfl (fun k hk => List.all_eq_true.mp ce_X7_split_0_164 k (List.mem_range.mpr (by omega)))
theorem ct_X7_split_0 : ctrO QQ CF ck_X7_split_0 mX7_split := chk_okS (Q := QQ) (QP := QPl) (C := CF) (c := ck_X7_split_0) (G := cg_X7_split_0) (X := xxX7) (M := mX7_split) (t := tX7_split) (anns := ca_X7_split_0) [164] 4294967296 xx7 pl7 rfl kX7_split qq_ok cx_X7_split_0 seg_X7_split_0 cc_X7_split_0
def ck_X5_advance_0 : AK := (1, [.inr (.inl [35])], [35], false, [([], .inr (.inr 9), [])], [])
def cg_X5_advance_0 : List (Nat × AK) := []
def ca_X5_advance_0 : List (Nat × AA) := []
set_option maxRecDepth 100000 in
theorem cc_X5_advance_0 : aChk QPl CF ck_X5_advance_0 cg_X5_advance_0 xxX5 mX5_advance tX5_advance ca_X5_advance_0 [] 1 = true := by decide +kernel
theorem cx_X5_advance_0 : ctsO QQ CF xxX5 cg_X5_advance_0 := ctsO_nil
theorem ct_X5_advance_0 : ctrO QQ CF ck_X5_advance_0 mX5_advance := chk_ok (Q := QQ) (QP := QPl) (C := CF) (c := ck_X5_advance_0) (G := cg_X5_advance_0) (X := xxX5) (M := mX5_advance) (t := tX5_advance) (anns := ca_X5_advance_0) 1 xx5 pl5 rfl kX5_advance qq_ok cx_X5_advance_0 cc_X5_advance_0
def ck_X5_fail_0 : AK := (1, [.inr (.inl [35]), .inl fr], [35], false, [([fr], .inl (.ofNat 0, .ofNat 0), [])], [])
def cg_X5_fail_0 : List (Nat × AK) := []
def ca_X5_fail_0 : List (Nat × AA) := []
set_option maxRecDepth 100000 in
theorem cc_X5_fail_0 : aChk QPl CF ck_X5_fail_0 cg_X5_fail_0 xxX5 mX5_fail tX5_fail ca_X5_fail_0 [] 1 = true := by decide +kernel
theorem cx_X5_fail_0 : ctsO QQ CF xxX5 cg_X5_fail_0 := ctsO_nil
theorem ct_X5_fail_0 : ctrO QQ CF ck_X5_fail_0 mX5_fail := chk_ok (Q := QQ) (QP := QPl) (C := CF) (c := ck_X5_fail_0) (G := cg_X5_fail_0) (X := xxX5) (M := mX5_fail) (t := tX5_fail) (anns := ca_X5_fail_0) 1 xx5 pl5 rfl kX5_fail qq_ok cx_X5_fail_0 cc_X5_fail_0
def ck_X8_addClause_0 : AK := (1, [.inr (.inl [18]), .inl fr], [18, 22], false, [([fr], .inr (.inr 9), [])], [(18, 5, (.ofNat 0, .ofNat 24)), (47, 5, (.ofNat 0, .ofNat 24)), (52, 5, (.ofNat 0, .ofNat 24)), (57, 5, (.ofNat 0, .ofNat 24)), (62, 5, (.ofNat 0, .ofNat 24))])
def cg_X8_addClause_0 : List (Nat × AK) := []
def ca_X8_addClause_0_1 : Nat × AA := (1, [(.ofNat 0, .ofNat 0), fr, (.ofNat 0, .ofNat 24)], [.inr (.inl [18]), .inl (1, .ofNat 0), .inr (.inr 0), .inr (.inr 0)], [.inr (.inl [18])], [(18, 5, 2, .ofNat 0)], [(2, 18, 5)], (.ofNat 0, [.ofNat 0, .ofNat 0, .ofNat 0]))
def ca_X8_addClause_0 : List (Nat × AA) := [ca_X8_addClause_0_1]
set_option maxRecDepth 100000 in
theorem cc_X8_addClause_0 : aChk QPl CF ck_X8_addClause_0 cg_X8_addClause_0 xxX8 mX8_addClause tX8_addClause ca_X8_addClause_0 [1] 1 = true := by decide +kernel
theorem cx_X8_addClause_0 : ctsO QQ CF xxX8 cg_X8_addClause_0 := ctsO_nil
set_option maxRecDepth 100000 in
theorem ce_X8_addClause_0_1 : ((List.range 25).all fun k => aN CF ck_X8_addClause_0.2.2.1 ck_X8_addClause_0.2.2.2.1 cg_X8_addClause_0 (ck_X8_addClause_0.1 - 1) ck_X8_addClause_0.2.2.2.2.1 xxX8 mX8_addClause.2.2.2 tX8_addClause (ca_X8_addClause_0.map fun q => q.1) (kkA CF ((aInts ck_X8_addClause_0.2.1).length + 1) ca_X8_addClause_0 (some ca_X8_addClause_0_1.2.2.2.2.2.2)) 1 (enS ca_X8_addClause_0_1.2 2 ((Int.ofNat 0 : Int) + (k : Int)))) = true := by decide +kernel
theorem seg_X8_addClause_0 : ∀ q, q ∈ ca_X8_addClause_0 → nmem q.1 [1] = true → ∀ (l : Launch) (d : Nat) (sh : List XO) (I : XI) (as : List Value) (Rp : XR), agO ck_X8_addClause_0.2.1 as → (∀ I2, frO ck_X8_addClause_0.2.2.1 I I2 → QQ I2) → outO QQ CF ck_X8_addClause_0.2.2.1 ck_X8_addClause_0.2.2.2.1 sh I ck_X8_addClause_0.2.2.2.2.1 as Rp → segO CF ck_X8_addClause_0.2.2.1 ck_X8_addClause_0.2.2.2.1 sh I xxX8 mX8_addClause.2.2.2 (!(Nat.beq 0 0)) sh.length 0 0 l (d + (ck_X8_addClause_0.1 - 1)) tX8_addClause (ca_X8_addClause_0.map fun q => q.1) Rp as ca_X8_addClause_0 (aInts ck_X8_addClause_0.2.1).length q := by
  intro q hq hz l d sh0 I0 as Rp ha hQ hO
  simp only [ca_X8_addClause_0, List.mem_cons, List.not_mem_nil, or_false] at hq
  rcases hq with rfl
  · exact seg_enum hQ cx_X8_addClause_0 hO 2 24 (Int.ofNat 0 : Int) rfl (fun k hk => List.all_eq_true.mp ce_X8_addClause_0_1 k (List.mem_range.mpr (by omega)))
theorem ct_X8_addClause_0 : ctrO QQ CF ck_X8_addClause_0 mX8_addClause := chk_okS (Q := QQ) (QP := QPl) (C := CF) (c := ck_X8_addClause_0) (G := cg_X8_addClause_0) (X := xxX8) (M := mX8_addClause) (t := tX8_addClause) (anns := ca_X8_addClause_0) [1] 1 xx8 pl8 rfl kX8_addClause qq_ok cx_X8_addClause_0 seg_X8_addClause_0 cc_X8_addClause_0
def ck_X8_addClause_1 : AK := (1, [.inr (.inl [47]), .inl fr], [47, 51], false, [([fr], .inr (.inr 9), [])], [(18, 5, (.ofNat 0, .ofNat 24)), (47, 5, (.ofNat 0, .ofNat 24)), (52, 5, (.ofNat 0, .ofNat 24)), (57, 5, (.ofNat 0, .ofNat 24)), (62, 5, (.ofNat 0, .ofNat 24))])
def cg_X8_addClause_1 : List (Nat × AK) := []
def ca_X8_addClause_1_1 : Nat × AA := (1, [(.ofNat 0, .ofNat 0), fr, (.ofNat 0, .ofNat 24)], [.inr (.inl [47]), .inl (1, .ofNat 0), .inr (.inr 0), .inr (.inr 0)], [.inr (.inl [47])], [(47, 5, 2, .ofNat 0)], [(2, 47, 5)], (.ofNat 0, [.ofNat 0, .ofNat 0, .ofNat 0]))
def ca_X8_addClause_1 : List (Nat × AA) := [ca_X8_addClause_1_1]
set_option maxRecDepth 100000 in
theorem cc_X8_addClause_1 : aChk QPl CF ck_X8_addClause_1 cg_X8_addClause_1 xxX8 mX8_addClause tX8_addClause ca_X8_addClause_1 [1] 1 = true := by decide +kernel
theorem cx_X8_addClause_1 : ctsO QQ CF xxX8 cg_X8_addClause_1 := ctsO_nil
set_option maxRecDepth 100000 in
theorem ce_X8_addClause_1_1 : ((List.range 25).all fun k => aN CF ck_X8_addClause_1.2.2.1 ck_X8_addClause_1.2.2.2.1 cg_X8_addClause_1 (ck_X8_addClause_1.1 - 1) ck_X8_addClause_1.2.2.2.2.1 xxX8 mX8_addClause.2.2.2 tX8_addClause (ca_X8_addClause_1.map fun q => q.1) (kkA CF ((aInts ck_X8_addClause_1.2.1).length + 1) ca_X8_addClause_1 (some ca_X8_addClause_1_1.2.2.2.2.2.2)) 1 (enS ca_X8_addClause_1_1.2 2 ((Int.ofNat 0 : Int) + (k : Int)))) = true := by decide +kernel
theorem seg_X8_addClause_1 : ∀ q, q ∈ ca_X8_addClause_1 → nmem q.1 [1] = true → ∀ (l : Launch) (d : Nat) (sh : List XO) (I : XI) (as : List Value) (Rp : XR), agO ck_X8_addClause_1.2.1 as → (∀ I2, frO ck_X8_addClause_1.2.2.1 I I2 → QQ I2) → outO QQ CF ck_X8_addClause_1.2.2.1 ck_X8_addClause_1.2.2.2.1 sh I ck_X8_addClause_1.2.2.2.2.1 as Rp → segO CF ck_X8_addClause_1.2.2.1 ck_X8_addClause_1.2.2.2.1 sh I xxX8 mX8_addClause.2.2.2 (!(Nat.beq 0 0)) sh.length 0 0 l (d + (ck_X8_addClause_1.1 - 1)) tX8_addClause (ca_X8_addClause_1.map fun q => q.1) Rp as ca_X8_addClause_1 (aInts ck_X8_addClause_1.2.1).length q := by
  intro q hq hz l d sh0 I0 as Rp ha hQ hO
  simp only [ca_X8_addClause_1, List.mem_cons, List.not_mem_nil, or_false] at hq
  rcases hq with rfl
  · exact seg_enum hQ cx_X8_addClause_1 hO 2 24 (Int.ofNat 0 : Int) rfl (fun k hk => List.all_eq_true.mp ce_X8_addClause_1_1 k (List.mem_range.mpr (by omega)))
theorem ct_X8_addClause_1 : ctrO QQ CF ck_X8_addClause_1 mX8_addClause := chk_okS (Q := QQ) (QP := QPl) (C := CF) (c := ck_X8_addClause_1) (G := cg_X8_addClause_1) (X := xxX8) (M := mX8_addClause) (t := tX8_addClause) (anns := ca_X8_addClause_1) [1] 1 xx8 pl8 rfl kX8_addClause qq_ok cx_X8_addClause_1 seg_X8_addClause_1 cc_X8_addClause_1
def ck_X8_addClause_2 : AK := (1, [.inr (.inl [52]), .inl fr], [52, 56], false, [([fr], .inr (.inr 9), [])], [(18, 5, (.ofNat 0, .ofNat 24)), (47, 5, (.ofNat 0, .ofNat 24)), (52, 5, (.ofNat 0, .ofNat 24)), (57, 5, (.ofNat 0, .ofNat 24)), (62, 5, (.ofNat 0, .ofNat 24))])
def cg_X8_addClause_2 : List (Nat × AK) := []
def ca_X8_addClause_2_1 : Nat × AA := (1, [(.ofNat 0, .ofNat 0), fr, (.ofNat 0, .ofNat 24)], [.inr (.inl [52]), .inl (1, .ofNat 0), .inr (.inr 0), .inr (.inr 0)], [.inr (.inl [52])], [(52, 5, 2, .ofNat 0)], [(2, 52, 5)], (.ofNat 0, [.ofNat 0, .ofNat 0, .ofNat 0]))
def ca_X8_addClause_2 : List (Nat × AA) := [ca_X8_addClause_2_1]
set_option maxRecDepth 100000 in
theorem cc_X8_addClause_2 : aChk QPl CF ck_X8_addClause_2 cg_X8_addClause_2 xxX8 mX8_addClause tX8_addClause ca_X8_addClause_2 [1] 1 = true := by decide +kernel
theorem cx_X8_addClause_2 : ctsO QQ CF xxX8 cg_X8_addClause_2 := ctsO_nil
set_option maxRecDepth 100000 in
theorem ce_X8_addClause_2_1 : ((List.range 25).all fun k => aN CF ck_X8_addClause_2.2.2.1 ck_X8_addClause_2.2.2.2.1 cg_X8_addClause_2 (ck_X8_addClause_2.1 - 1) ck_X8_addClause_2.2.2.2.2.1 xxX8 mX8_addClause.2.2.2 tX8_addClause (ca_X8_addClause_2.map fun q => q.1) (kkA CF ((aInts ck_X8_addClause_2.2.1).length + 1) ca_X8_addClause_2 (some ca_X8_addClause_2_1.2.2.2.2.2.2)) 1 (enS ca_X8_addClause_2_1.2 2 ((Int.ofNat 0 : Int) + (k : Int)))) = true := by decide +kernel
theorem seg_X8_addClause_2 : ∀ q, q ∈ ca_X8_addClause_2 → nmem q.1 [1] = true → ∀ (l : Launch) (d : Nat) (sh : List XO) (I : XI) (as : List Value) (Rp : XR), agO ck_X8_addClause_2.2.1 as → (∀ I2, frO ck_X8_addClause_2.2.2.1 I I2 → QQ I2) → outO QQ CF ck_X8_addClause_2.2.2.1 ck_X8_addClause_2.2.2.2.1 sh I ck_X8_addClause_2.2.2.2.2.1 as Rp → segO CF ck_X8_addClause_2.2.2.1 ck_X8_addClause_2.2.2.2.1 sh I xxX8 mX8_addClause.2.2.2 (!(Nat.beq 0 0)) sh.length 0 0 l (d + (ck_X8_addClause_2.1 - 1)) tX8_addClause (ca_X8_addClause_2.map fun q => q.1) Rp as ca_X8_addClause_2 (aInts ck_X8_addClause_2.2.1).length q := by
  intro q hq hz l d sh0 I0 as Rp ha hQ hO
  simp only [ca_X8_addClause_2, List.mem_cons, List.not_mem_nil, or_false] at hq
  rcases hq with rfl
  · exact seg_enum hQ cx_X8_addClause_2 hO 2 24 (Int.ofNat 0 : Int) rfl (fun k hk => List.all_eq_true.mp ce_X8_addClause_2_1 k (List.mem_range.mpr (by omega)))
theorem ct_X8_addClause_2 : ctrO QQ CF ck_X8_addClause_2 mX8_addClause := chk_okS (Q := QQ) (QP := QPl) (C := CF) (c := ck_X8_addClause_2) (G := cg_X8_addClause_2) (X := xxX8) (M := mX8_addClause) (t := tX8_addClause) (anns := ca_X8_addClause_2) [1] 1 xx8 pl8 rfl kX8_addClause qq_ok cx_X8_addClause_2 seg_X8_addClause_2 cc_X8_addClause_2
def ck_X8_addClause_3 : AK := (1, [.inr (.inl [57]), .inl fr], [57, 61], false, [([fr], .inr (.inr 9), [])], [(18, 5, (.ofNat 0, .ofNat 24)), (47, 5, (.ofNat 0, .ofNat 24)), (52, 5, (.ofNat 0, .ofNat 24)), (57, 5, (.ofNat 0, .ofNat 24)), (62, 5, (.ofNat 0, .ofNat 24))])
def cg_X8_addClause_3 : List (Nat × AK) := []
def ca_X8_addClause_3_1 : Nat × AA := (1, [(.ofNat 0, .ofNat 0), fr, (.ofNat 0, .ofNat 24)], [.inr (.inl [57]), .inl (1, .ofNat 0), .inr (.inr 0), .inr (.inr 0)], [.inr (.inl [57])], [(57, 5, 2, .ofNat 0)], [(2, 57, 5)], (.ofNat 0, [.ofNat 0, .ofNat 0, .ofNat 0]))
def ca_X8_addClause_3 : List (Nat × AA) := [ca_X8_addClause_3_1]
set_option maxRecDepth 100000 in
theorem cc_X8_addClause_3 : aChk QPl CF ck_X8_addClause_3 cg_X8_addClause_3 xxX8 mX8_addClause tX8_addClause ca_X8_addClause_3 [1] 1 = true := by decide +kernel
theorem cx_X8_addClause_3 : ctsO QQ CF xxX8 cg_X8_addClause_3 := ctsO_nil
set_option maxRecDepth 100000 in
theorem ce_X8_addClause_3_1 : ((List.range 25).all fun k => aN CF ck_X8_addClause_3.2.2.1 ck_X8_addClause_3.2.2.2.1 cg_X8_addClause_3 (ck_X8_addClause_3.1 - 1) ck_X8_addClause_3.2.2.2.2.1 xxX8 mX8_addClause.2.2.2 tX8_addClause (ca_X8_addClause_3.map fun q => q.1) (kkA CF ((aInts ck_X8_addClause_3.2.1).length + 1) ca_X8_addClause_3 (some ca_X8_addClause_3_1.2.2.2.2.2.2)) 1 (enS ca_X8_addClause_3_1.2 2 ((Int.ofNat 0 : Int) + (k : Int)))) = true := by decide +kernel
theorem seg_X8_addClause_3 : ∀ q, q ∈ ca_X8_addClause_3 → nmem q.1 [1] = true → ∀ (l : Launch) (d : Nat) (sh : List XO) (I : XI) (as : List Value) (Rp : XR), agO ck_X8_addClause_3.2.1 as → (∀ I2, frO ck_X8_addClause_3.2.2.1 I I2 → QQ I2) → outO QQ CF ck_X8_addClause_3.2.2.1 ck_X8_addClause_3.2.2.2.1 sh I ck_X8_addClause_3.2.2.2.2.1 as Rp → segO CF ck_X8_addClause_3.2.2.1 ck_X8_addClause_3.2.2.2.1 sh I xxX8 mX8_addClause.2.2.2 (!(Nat.beq 0 0)) sh.length 0 0 l (d + (ck_X8_addClause_3.1 - 1)) tX8_addClause (ca_X8_addClause_3.map fun q => q.1) Rp as ca_X8_addClause_3 (aInts ck_X8_addClause_3.2.1).length q := by
  intro q hq hz l d sh0 I0 as Rp ha hQ hO
  simp only [ca_X8_addClause_3, List.mem_cons, List.not_mem_nil, or_false] at hq
  rcases hq with rfl
  · exact seg_enum hQ cx_X8_addClause_3 hO 2 24 (Int.ofNat 0 : Int) rfl (fun k hk => List.all_eq_true.mp ce_X8_addClause_3_1 k (List.mem_range.mpr (by omega)))
theorem ct_X8_addClause_3 : ctrO QQ CF ck_X8_addClause_3 mX8_addClause := chk_okS (Q := QQ) (QP := QPl) (C := CF) (c := ck_X8_addClause_3) (G := cg_X8_addClause_3) (X := xxX8) (M := mX8_addClause) (t := tX8_addClause) (anns := ca_X8_addClause_3) [1] 1 xx8 pl8 rfl kX8_addClause qq_ok cx_X8_addClause_3 seg_X8_addClause_3 cc_X8_addClause_3
def ck_X8_addClause_4 : AK := (1, [.inr (.inl [62]), .inl fr], [62, 66], false, [([fr], .inr (.inr 9), [])], [(18, 5, (.ofNat 0, .ofNat 24)), (47, 5, (.ofNat 0, .ofNat 24)), (52, 5, (.ofNat 0, .ofNat 24)), (57, 5, (.ofNat 0, .ofNat 24)), (62, 5, (.ofNat 0, .ofNat 24))])
def cg_X8_addClause_4 : List (Nat × AK) := []
def ca_X8_addClause_4_1 : Nat × AA := (1, [(.ofNat 0, .ofNat 0), fr, (.ofNat 0, .ofNat 24)], [.inr (.inl [62]), .inl (1, .ofNat 0), .inr (.inr 0), .inr (.inr 0)], [.inr (.inl [62])], [(62, 5, 2, .ofNat 0)], [(2, 62, 5)], (.ofNat 0, [.ofNat 0, .ofNat 0, .ofNat 0]))
def ca_X8_addClause_4 : List (Nat × AA) := [ca_X8_addClause_4_1]
set_option maxRecDepth 100000 in
theorem cc_X8_addClause_4 : aChk QPl CF ck_X8_addClause_4 cg_X8_addClause_4 xxX8 mX8_addClause tX8_addClause ca_X8_addClause_4 [1] 1 = true := by decide +kernel
theorem cx_X8_addClause_4 : ctsO QQ CF xxX8 cg_X8_addClause_4 := ctsO_nil
set_option maxRecDepth 100000 in
theorem ce_X8_addClause_4_1 : ((List.range 25).all fun k => aN CF ck_X8_addClause_4.2.2.1 ck_X8_addClause_4.2.2.2.1 cg_X8_addClause_4 (ck_X8_addClause_4.1 - 1) ck_X8_addClause_4.2.2.2.2.1 xxX8 mX8_addClause.2.2.2 tX8_addClause (ca_X8_addClause_4.map fun q => q.1) (kkA CF ((aInts ck_X8_addClause_4.2.1).length + 1) ca_X8_addClause_4 (some ca_X8_addClause_4_1.2.2.2.2.2.2)) 1 (enS ca_X8_addClause_4_1.2 2 ((Int.ofNat 0 : Int) + (k : Int)))) = true := by decide +kernel
theorem seg_X8_addClause_4 : ∀ q, q ∈ ca_X8_addClause_4 → nmem q.1 [1] = true → ∀ (l : Launch) (d : Nat) (sh : List XO) (I : XI) (as : List Value) (Rp : XR), agO ck_X8_addClause_4.2.1 as → (∀ I2, frO ck_X8_addClause_4.2.2.1 I I2 → QQ I2) → outO QQ CF ck_X8_addClause_4.2.2.1 ck_X8_addClause_4.2.2.2.1 sh I ck_X8_addClause_4.2.2.2.2.1 as Rp → segO CF ck_X8_addClause_4.2.2.1 ck_X8_addClause_4.2.2.2.1 sh I xxX8 mX8_addClause.2.2.2 (!(Nat.beq 0 0)) sh.length 0 0 l (d + (ck_X8_addClause_4.1 - 1)) tX8_addClause (ca_X8_addClause_4.map fun q => q.1) Rp as ca_X8_addClause_4 (aInts ck_X8_addClause_4.2.1).length q := by
  intro q hq hz l d sh0 I0 as Rp ha hQ hO
  simp only [ca_X8_addClause_4, List.mem_cons, List.not_mem_nil, or_false] at hq
  rcases hq with rfl
  · exact seg_enum hQ cx_X8_addClause_4 hO 2 24 (Int.ofNat 0 : Int) rfl (fun k hk => List.all_eq_true.mp ce_X8_addClause_4_1 k (List.mem_range.mpr (by omega)))
theorem ct_X8_addClause_4 : ctrO QQ CF ck_X8_addClause_4 mX8_addClause := chk_okS (Q := QQ) (QP := QPl) (C := CF) (c := ck_X8_addClause_4) (G := cg_X8_addClause_4) (X := xxX8) (M := mX8_addClause) (t := tX8_addClause) (anns := ca_X8_addClause_4) [1] 1 xx8 pl8 rfl kX8_addClause qq_ok cx_X8_addClause_4 seg_X8_addClause_4 cc_X8_addClause_4
def ck_X8_addClause_5 : AK := (1, [.inr (.inl [18, 47, 52, 57, 62]), .inl fr], [18, 22, 47, 51, 52, 56, 57, 61, 62, 66], false, [([fr], .inr (.inr 9), [])], [(18, 5, (.ofNat 0, .ofNat 24)), (47, 5, (.ofNat 0, .ofNat 24)), (52, 5, (.ofNat 0, .ofNat 24)), (57, 5, (.ofNat 0, .ofNat 24)), (62, 5, (.ofNat 0, .ofNat 24))])
theorem ct_X8_addClause_5 : ctrO QQ CF ck_X8_addClause_5 mX8_addClause := by
  refine ctr_uni (fun p hp => ?_)
  simp only [List.mem_cons, List.not_mem_nil, or_false] at hp
  rcases hp with rfl | rfl | rfl | rfl | rfl
  · exact ⟨_, _, ct_X8_addClause_0, by decide, by decide⟩
  · exact ⟨_, _, ct_X8_addClause_1, by decide, by decide⟩
  · exact ⟨_, _, ct_X8_addClause_2, by decide, by decide⟩
  · exact ⟨_, _, ct_X8_addClause_3, by decide, by decide⟩
  · exact ⟨_, _, ct_X8_addClause_4, by decide, by decide⟩
def ck_X8_setNumber_0 : AK := (1, [.inr (.inl [18]), .inl fr, .inl fr], [22], false, [([fr, fr], .inr (.inr 9), [])], [])
def cg_X8_setNumber_0 : List (Nat × AK) := []
def ca_X8_setNumber_0 : List (Nat × AA) := []
set_option maxRecDepth 100000 in
theorem cc_X8_setNumber_0 : aChk QPl CF ck_X8_setNumber_0 cg_X8_setNumber_0 xxX8 mX8_setNumber tX8_setNumber ca_X8_setNumber_0 [] 1 = true := by decide +kernel
theorem cx_X8_setNumber_0 : ctsO QQ CF xxX8 cg_X8_setNumber_0 := ctsO_nil
theorem ct_X8_setNumber_0 : ctrO QQ CF ck_X8_setNumber_0 mX8_setNumber := chk_ok (Q := QQ) (QP := QPl) (C := CF) (c := ck_X8_setNumber_0) (G := cg_X8_setNumber_0) (X := xxX8) (M := mX8_setNumber) (t := tX8_setNumber) (anns := ca_X8_setNumber_0) 1 xx8 pl8 rfl kX8_setNumber qq_ok cx_X8_setNumber_0 cc_X8_setNumber_0
def ck_X8_setNumber_1 : AK := (1, [.inr (.inl [47]), .inl fr, .inl fr], [51], false, [([fr, fr], .inr (.inr 9), [])], [])
def cg_X8_setNumber_1 : List (Nat × AK) := []
def ca_X8_setNumber_1 : List (Nat × AA) := []
set_option maxRecDepth 100000 in
theorem cc_X8_setNumber_1 : aChk QPl CF ck_X8_setNumber_1 cg_X8_setNumber_1 xxX8 mX8_setNumber tX8_setNumber ca_X8_setNumber_1 [] 1 = true := by decide +kernel
theorem cx_X8_setNumber_1 : ctsO QQ CF xxX8 cg_X8_setNumber_1 := ctsO_nil
theorem ct_X8_setNumber_1 : ctrO QQ CF ck_X8_setNumber_1 mX8_setNumber := chk_ok (Q := QQ) (QP := QPl) (C := CF) (c := ck_X8_setNumber_1) (G := cg_X8_setNumber_1) (X := xxX8) (M := mX8_setNumber) (t := tX8_setNumber) (anns := ca_X8_setNumber_1) 1 xx8 pl8 rfl kX8_setNumber qq_ok cx_X8_setNumber_1 cc_X8_setNumber_1
def ck_X8_setNumber_2 : AK := (1, [.inr (.inl [52]), .inl fr, .inl fr], [56], false, [([fr, fr], .inr (.inr 9), [])], [])
def cg_X8_setNumber_2 : List (Nat × AK) := []
def ca_X8_setNumber_2 : List (Nat × AA) := []
set_option maxRecDepth 100000 in
theorem cc_X8_setNumber_2 : aChk QPl CF ck_X8_setNumber_2 cg_X8_setNumber_2 xxX8 mX8_setNumber tX8_setNumber ca_X8_setNumber_2 [] 1 = true := by decide +kernel
theorem cx_X8_setNumber_2 : ctsO QQ CF xxX8 cg_X8_setNumber_2 := ctsO_nil
theorem ct_X8_setNumber_2 : ctrO QQ CF ck_X8_setNumber_2 mX8_setNumber := chk_ok (Q := QQ) (QP := QPl) (C := CF) (c := ck_X8_setNumber_2) (G := cg_X8_setNumber_2) (X := xxX8) (M := mX8_setNumber) (t := tX8_setNumber) (anns := ca_X8_setNumber_2) 1 xx8 pl8 rfl kX8_setNumber qq_ok cx_X8_setNumber_2 cc_X8_setNumber_2
def ck_X8_setNumber_3 : AK := (1, [.inr (.inl [57]), .inl fr, .inl fr], [61], false, [([fr, fr], .inr (.inr 9), [])], [])
def cg_X8_setNumber_3 : List (Nat × AK) := []
def ca_X8_setNumber_3 : List (Nat × AA) := []
set_option maxRecDepth 100000 in
theorem cc_X8_setNumber_3 : aChk QPl CF ck_X8_setNumber_3 cg_X8_setNumber_3 xxX8 mX8_setNumber tX8_setNumber ca_X8_setNumber_3 [] 1 = true := by decide +kernel
theorem cx_X8_setNumber_3 : ctsO QQ CF xxX8 cg_X8_setNumber_3 := ctsO_nil
theorem ct_X8_setNumber_3 : ctrO QQ CF ck_X8_setNumber_3 mX8_setNumber := chk_ok (Q := QQ) (QP := QPl) (C := CF) (c := ck_X8_setNumber_3) (G := cg_X8_setNumber_3) (X := xxX8) (M := mX8_setNumber) (t := tX8_setNumber) (anns := ca_X8_setNumber_3) 1 xx8 pl8 rfl kX8_setNumber qq_ok cx_X8_setNumber_3 cc_X8_setNumber_3
def ck_X8_setNumber_4 : AK := (1, [.inr (.inl [62]), .inl fr, .inl fr], [66], false, [([fr, fr], .inr (.inr 9), [])], [])
def cg_X8_setNumber_4 : List (Nat × AK) := []
def ca_X8_setNumber_4 : List (Nat × AA) := []
set_option maxRecDepth 100000 in
theorem cc_X8_setNumber_4 : aChk QPl CF ck_X8_setNumber_4 cg_X8_setNumber_4 xxX8 mX8_setNumber tX8_setNumber ca_X8_setNumber_4 [] 1 = true := by decide +kernel
theorem cx_X8_setNumber_4 : ctsO QQ CF xxX8 cg_X8_setNumber_4 := ctsO_nil
theorem ct_X8_setNumber_4 : ctrO QQ CF ck_X8_setNumber_4 mX8_setNumber := chk_ok (Q := QQ) (QP := QPl) (C := CF) (c := ck_X8_setNumber_4) (G := cg_X8_setNumber_4) (X := xxX8) (M := mX8_setNumber) (t := tX8_setNumber) (anns := ca_X8_setNumber_4) 1 xx8 pl8 rfl kX8_setNumber qq_ok cx_X8_setNumber_4 cc_X8_setNumber_4
def ck_X8_setNumber_5 : AK := (1, [.inr (.inl [18, 47, 52, 57, 62]), .inl fr, .inl fr], [22, 51, 56, 61, 66], false, [([fr, fr], .inr (.inr 9), [])], [])
theorem ct_X8_setNumber_5 : ctrO QQ CF ck_X8_setNumber_5 mX8_setNumber := by
  refine ctr_uni (fun p hp => ?_)
  simp only [List.mem_cons, List.not_mem_nil, or_false] at hp
  rcases hp with rfl | rfl | rfl | rfl | rfl
  · exact ⟨_, _, ct_X8_setNumber_0, by decide, by decide⟩
  · exact ⟨_, _, ct_X8_setNumber_1, by decide, by decide⟩
  · exact ⟨_, _, ct_X8_setNumber_2, by decide, by decide⟩
  · exact ⟨_, _, ct_X8_setNumber_3, by decide, by decide⟩
  · exact ⟨_, _, ct_X8_setNumber_4, by decide, by decide⟩
def ck_X5_number_0 : AK := (2, [.inr (.inl [35]), .inl fr, .inl fr], [35], false, [([fr, fr], .inl (.ofNat 0, .ofNat 0), []), ([fr, fr], .inl (.ofNat 1, .ofNat 1), [])], [])
def cg_X5_number_0 : List (Nat × AK) := [(75, ck_X5_fail_0), (52, ck_X5_advance_0)]
def ca_X5_number_0 : List (Nat × AA) := []
set_option maxRecDepth 100000 in
theorem cc_X5_number_0 : aChk QPl CF ck_X5_number_0 cg_X5_number_0 xxX5 mX5_number tX5_number ca_X5_number_0 [] 1 = true := by decide +kernel
theorem cx_X5_number_0 : ctsO QQ CF xxX5 cg_X5_number_0 := ctsO_cons rfl ct_X5_fail_0 (ctsO_cons rfl ct_X5_advance_0 (ctsO_nil))
theorem ct_X5_number_0 : ctrO QQ CF ck_X5_number_0 mX5_number := chk_ok (Q := QQ) (QP := QPl) (C := CF) (c := ck_X5_number_0) (G := cg_X5_number_0) (X := xxX5) (M := mX5_number) (t := tX5_number) (anns := ca_X5_number_0) 1 xx5 pl5 rfl kX5_number qq_ok cx_X5_number_0 cc_X5_number_0
def ck_X5_isWord_0 : AK := (1, [.inr (.inl [35]), .inl fr], [], false, [([fr], .inl (.ofNat 1, .ofNat 1), []), ([fr], .inl (.ofNat 0, .ofNat 0), [])], [])
def cg_X5_isWord_0 : List (Nat × AK) := []
def ca_X5_isWord_0 : List (Nat × AA) := []
set_option maxRecDepth 100000 in
theorem cc_X5_isWord_0 : aChk QPl CF ck_X5_isWord_0 cg_X5_isWord_0 xxX5 mX5_isWord tX5_isWord ca_X5_isWord_0 [] 1 = true := by decide +kernel
theorem cx_X5_isWord_0 : ctsO QQ CF xxX5 cg_X5_isWord_0 := ctsO_nil
theorem ct_X5_isWord_0 : ctrO QQ CF ck_X5_isWord_0 mX5_isWord := chk_ok (Q := QQ) (QP := QPl) (C := CF) (c := ck_X5_isWord_0) (G := cg_X5_isWord_0) (X := xxX5) (M := mX5_isWord) (t := tX5_isWord) (anns := ca_X5_isWord_0) 1 xx5 pl5 rfl kX5_isWord qq_ok cx_X5_isWord_0 cc_X5_isWord_0
def ck_X5_word_0 : AK := (2, [.inr (.inl [35]), .inl fr], [35], false, [([fr], .inl (.ofNat 1, .ofNat 1), []), ([fr], .inl (.ofNat 0, .ofNat 0), [])], [])
def cg_X5_word_0 : List (Nat × AK) := [(78, ck_X5_isWord_0), (52, ck_X5_advance_0), (75, ck_X5_fail_0)]
def ca_X5_word_0 : List (Nat × AA) := []
set_option maxRecDepth 100000 in
theorem cc_X5_word_0 : aChk QPl CF ck_X5_word_0 cg_X5_word_0 xxX5 mX5_word tX5_word ca_X5_word_0 [] 1 = true := by decide +kernel
theorem cx_X5_word_0 : ctsO QQ CF xxX5 cg_X5_word_0 := ctsO_cons rfl ct_X5_isWord_0 (ctsO_cons rfl ct_X5_advance_0 (ctsO_cons rfl ct_X5_fail_0 (ctsO_nil)))
theorem ct_X5_word_0 : ctrO QQ CF ck_X5_word_0 mX5_word := chk_ok (Q := QQ) (QP := QPl) (C := CF) (c := ck_X5_word_0) (G := cg_X5_word_0) (X := xxX5) (M := mX5_word) (t := tX5_word) (anns := ca_X5_word_0) 1 xx5 pl5 rfl kX5_word qq_ok cx_X5_word_0 cc_X5_word_0
def ck_X5_deed_0 : AK := (3, [.inr (.inl [35]), .inl (.ofNat 5, .ofNat 13)], [22, 35, 51, 56, 61, 66], false, [([(.ofNat 5, .ofNat 13)], .inl (.ofNat 0, .ofNat 0), []), ([(.ofNat 5, .ofNat 13)], .inl (.ofNat 1, .ofNat 1), [])], [])
def cg_X5_deed_0 : List (Nat × AK) := [(113, ck_X8_setNumber_5), (117, ck_X5_number_0), (121, ck_X5_word_0)]
def ca_X5_deed_0 : List (Nat × AA) := [(2, [(.ofNat 0, .ofNat 0), (.ofNat 5, .ofNat 13), (.ofNat 0, .ofNat 3)], [.inr (.inl [35]), .inl (1, .ofNat 0), .inl (2, .ofNat 0), .inr (.inr 0)], [], [], [(0, 2, 0)], (.ofNat 3, [.ofNat 0, .ofNat 0, .negSucc 0]))]
set_option maxRecDepth 100000 in
theorem cc_X5_deed_0 : aChk QPl CF ck_X5_deed_0 cg_X5_deed_0 xxX5 mX5_deed tX5_deed ca_X5_deed_0 [] 4 = true := by decide +kernel
theorem cx_X5_deed_0 : ctsO QQ CF xxX5 cg_X5_deed_0 := ctsO_cons rfl ct_X8_setNumber_5 (ctsO_cons rfl ct_X5_number_0 (ctsO_cons rfl ct_X5_word_0 (ctsO_nil)))
theorem ct_X5_deed_0 : ctrO QQ CF ck_X5_deed_0 mX5_deed := chk_ok (Q := QQ) (QP := QPl) (C := CF) (c := ck_X5_deed_0) (G := cg_X5_deed_0) (X := xxX5) (M := mX5_deed) (t := tX5_deed) (anns := ca_X5_deed_0) 4 xx5 pl5 rfl kX5_deed qq_ok cx_X5_deed_0 cc_X5_deed_0
def ck_X5_sign_0 : AK := (2, [.inr (.inl [35]), .inl fr], [35], false, [([fr], .inl (.ofNat 0, .ofNat 0), []), ([fr], .inl (.ofNat 1, .ofNat 1), [])], [])
def cg_X5_sign_0 : List (Nat × AK) := [(75, ck_X5_fail_0), (52, ck_X5_advance_0)]
def ca_X5_sign_0 : List (Nat × AA) := []
set_option maxRecDepth 100000 in
theorem cc_X5_sign_0 : aChk QPl CF ck_X5_sign_0 cg_X5_sign_0 xxX5 mX5_sign tX5_sign ca_X5_sign_0 [] 1 = true := by decide +kernel
theorem cx_X5_sign_0 : ctsO QQ CF xxX5 cg_X5_sign_0 := ctsO_cons rfl ct_X5_fail_0 (ctsO_cons rfl ct_X5_advance_0 (ctsO_nil))
theorem ct_X5_sign_0 : ctrO QQ CF ck_X5_sign_0 mX5_sign := chk_ok (Q := QQ) (QP := QPl) (C := CF) (c := ck_X5_sign_0) (G := cg_X5_sign_0) (X := xxX5) (M := mX5_sign) (t := tX5_sign) (anns := ca_X5_sign_0) 1 xx5 pl5 rfl kX5_sign qq_ok cx_X5_sign_0 cc_X5_sign_0
def ck_X8_openLaw_0 : AK := (1, [.inr (.inl [18]), .inl fr], [20], false, [([fr], .inr (.inr 9), [])], [])
def cg_X8_openLaw_0 : List (Nat × AK) := []
def ca_X8_openLaw_0 : List (Nat × AA) := []
set_option maxRecDepth 100000 in
theorem cc_X8_openLaw_0 : aChk QPl CF ck_X8_openLaw_0 cg_X8_openLaw_0 xxX8 mX8_openLaw tX8_openLaw ca_X8_openLaw_0 [] 1 = true := by decide +kernel
theorem cx_X8_openLaw_0 : ctsO QQ CF xxX8 cg_X8_openLaw_0 := ctsO_nil
theorem ct_X8_openLaw_0 : ctrO QQ CF ck_X8_openLaw_0 mX8_openLaw := chk_ok (Q := QQ) (QP := QPl) (C := CF) (c := ck_X8_openLaw_0) (G := cg_X8_openLaw_0) (X := xxX8) (M := mX8_openLaw) (t := tX8_openLaw) (anns := ca_X8_openLaw_0) 1 xx8 pl8 rfl kX8_openLaw qq_ok cx_X8_openLaw_0 cc_X8_openLaw_0
def ck_X8_openLaw_1 : AK := (1, [.inr (.inl [47]), .inl fr], [49], false, [([fr], .inr (.inr 9), [])], [])
def cg_X8_openLaw_1 : List (Nat × AK) := []
def ca_X8_openLaw_1 : List (Nat × AA) := []
set_option maxRecDepth 100000 in
theorem cc_X8_openLaw_1 : aChk QPl CF ck_X8_openLaw_1 cg_X8_openLaw_1 xxX8 mX8_openLaw tX8_openLaw ca_X8_openLaw_1 [] 1 = true := by decide +kernel
theorem cx_X8_openLaw_1 : ctsO QQ CF xxX8 cg_X8_openLaw_1 := ctsO_nil
theorem ct_X8_openLaw_1 : ctrO QQ CF ck_X8_openLaw_1 mX8_openLaw := chk_ok (Q := QQ) (QP := QPl) (C := CF) (c := ck_X8_openLaw_1) (G := cg_X8_openLaw_1) (X := xxX8) (M := mX8_openLaw) (t := tX8_openLaw) (anns := ca_X8_openLaw_1) 1 xx8 pl8 rfl kX8_openLaw qq_ok cx_X8_openLaw_1 cc_X8_openLaw_1
def ck_X8_openLaw_2 : AK := (1, [.inr (.inl [52]), .inl fr], [54], false, [([fr], .inr (.inr 9), [])], [])
def cg_X8_openLaw_2 : List (Nat × AK) := []
def ca_X8_openLaw_2 : List (Nat × AA) := []
set_option maxRecDepth 100000 in
theorem cc_X8_openLaw_2 : aChk QPl CF ck_X8_openLaw_2 cg_X8_openLaw_2 xxX8 mX8_openLaw tX8_openLaw ca_X8_openLaw_2 [] 1 = true := by decide +kernel
theorem cx_X8_openLaw_2 : ctsO QQ CF xxX8 cg_X8_openLaw_2 := ctsO_nil
theorem ct_X8_openLaw_2 : ctrO QQ CF ck_X8_openLaw_2 mX8_openLaw := chk_ok (Q := QQ) (QP := QPl) (C := CF) (c := ck_X8_openLaw_2) (G := cg_X8_openLaw_2) (X := xxX8) (M := mX8_openLaw) (t := tX8_openLaw) (anns := ca_X8_openLaw_2) 1 xx8 pl8 rfl kX8_openLaw qq_ok cx_X8_openLaw_2 cc_X8_openLaw_2
def ck_X8_openLaw_3 : AK := (1, [.inr (.inl [57]), .inl fr], [59], false, [([fr], .inr (.inr 9), [])], [])
def cg_X8_openLaw_3 : List (Nat × AK) := []
def ca_X8_openLaw_3 : List (Nat × AA) := []
set_option maxRecDepth 100000 in
theorem cc_X8_openLaw_3 : aChk QPl CF ck_X8_openLaw_3 cg_X8_openLaw_3 xxX8 mX8_openLaw tX8_openLaw ca_X8_openLaw_3 [] 1 = true := by decide +kernel
theorem cx_X8_openLaw_3 : ctsO QQ CF xxX8 cg_X8_openLaw_3 := ctsO_nil
theorem ct_X8_openLaw_3 : ctrO QQ CF ck_X8_openLaw_3 mX8_openLaw := chk_ok (Q := QQ) (QP := QPl) (C := CF) (c := ck_X8_openLaw_3) (G := cg_X8_openLaw_3) (X := xxX8) (M := mX8_openLaw) (t := tX8_openLaw) (anns := ca_X8_openLaw_3) 1 xx8 pl8 rfl kX8_openLaw qq_ok cx_X8_openLaw_3 cc_X8_openLaw_3
def ck_X8_openLaw_4 : AK := (1, [.inr (.inl [62]), .inl fr], [64], false, [([fr], .inr (.inr 9), [])], [])
def cg_X8_openLaw_4 : List (Nat × AK) := []
def ca_X8_openLaw_4 : List (Nat × AA) := []
set_option maxRecDepth 100000 in
theorem cc_X8_openLaw_4 : aChk QPl CF ck_X8_openLaw_4 cg_X8_openLaw_4 xxX8 mX8_openLaw tX8_openLaw ca_X8_openLaw_4 [] 1 = true := by decide +kernel
theorem cx_X8_openLaw_4 : ctsO QQ CF xxX8 cg_X8_openLaw_4 := ctsO_nil
theorem ct_X8_openLaw_4 : ctrO QQ CF ck_X8_openLaw_4 mX8_openLaw := chk_ok (Q := QQ) (QP := QPl) (C := CF) (c := ck_X8_openLaw_4) (G := cg_X8_openLaw_4) (X := xxX8) (M := mX8_openLaw) (t := tX8_openLaw) (anns := ca_X8_openLaw_4) 1 xx8 pl8 rfl kX8_openLaw qq_ok cx_X8_openLaw_4 cc_X8_openLaw_4
def ck_X8_openLaw_5 : AK := (1, [.inr (.inl [18, 47, 52, 57, 62]), .inl fr], [20, 49, 54, 59, 64], false, [([fr], .inr (.inr 9), [])], [])
theorem ct_X8_openLaw_5 : ctrO QQ CF ck_X8_openLaw_5 mX8_openLaw := by
  refine ctr_uni (fun p hp => ?_)
  simp only [List.mem_cons, List.not_mem_nil, or_false] at hp
  rcases hp with rfl | rfl | rfl | rfl | rfl
  · exact ⟨_, _, ct_X8_openLaw_0, by decide, by decide⟩
  · exact ⟨_, _, ct_X8_openLaw_1, by decide, by decide⟩
  · exact ⟨_, _, ct_X8_openLaw_2, by decide, by decide⟩
  · exact ⟨_, _, ct_X8_openLaw_3, by decide, by decide⟩
  · exact ⟨_, _, ct_X8_openLaw_4, by decide, by decide⟩
def ck_X8_emit_0 : AK := (1, [.inr (.inl [18]), .inl fr, .inl fr], [18, 19], false, [([fr, fr], .inr (.inr 9), [])], [])
def cg_X8_emit_0 : List (Nat × AK) := []
def ca_X8_emit_0 : List (Nat × AA) := []
set_option maxRecDepth 100000 in
theorem cc_X8_emit_0 : aChk QPl CF ck_X8_emit_0 cg_X8_emit_0 xxX8 mX8_emit tX8_emit ca_X8_emit_0 [] 1 = true := by decide +kernel
theorem cx_X8_emit_0 : ctsO QQ CF xxX8 cg_X8_emit_0 := ctsO_nil
theorem ct_X8_emit_0 : ctrO QQ CF ck_X8_emit_0 mX8_emit := chk_ok (Q := QQ) (QP := QPl) (C := CF) (c := ck_X8_emit_0) (G := cg_X8_emit_0) (X := xxX8) (M := mX8_emit) (t := tX8_emit) (anns := ca_X8_emit_0) 1 xx8 pl8 rfl kX8_emit qq_ok cx_X8_emit_0 cc_X8_emit_0
def ck_X8_emit_1 : AK := (1, [.inr (.inl [47]), .inl fr, .inl fr], [47, 48], false, [([fr, fr], .inr (.inr 9), [])], [])
def cg_X8_emit_1 : List (Nat × AK) := []
def ca_X8_emit_1 : List (Nat × AA) := []
set_option maxRecDepth 100000 in
theorem cc_X8_emit_1 : aChk QPl CF ck_X8_emit_1 cg_X8_emit_1 xxX8 mX8_emit tX8_emit ca_X8_emit_1 [] 1 = true := by decide +kernel
theorem cx_X8_emit_1 : ctsO QQ CF xxX8 cg_X8_emit_1 := ctsO_nil
theorem ct_X8_emit_1 : ctrO QQ CF ck_X8_emit_1 mX8_emit := chk_ok (Q := QQ) (QP := QPl) (C := CF) (c := ck_X8_emit_1) (G := cg_X8_emit_1) (X := xxX8) (M := mX8_emit) (t := tX8_emit) (anns := ca_X8_emit_1) 1 xx8 pl8 rfl kX8_emit qq_ok cx_X8_emit_1 cc_X8_emit_1
def ck_X8_emit_2 : AK := (1, [.inr (.inl [52]), .inl fr, .inl fr], [52, 53], false, [([fr, fr], .inr (.inr 9), [])], [])
def cg_X8_emit_2 : List (Nat × AK) := []
def ca_X8_emit_2 : List (Nat × AA) := []
set_option maxRecDepth 100000 in
theorem cc_X8_emit_2 : aChk QPl CF ck_X8_emit_2 cg_X8_emit_2 xxX8 mX8_emit tX8_emit ca_X8_emit_2 [] 1 = true := by decide +kernel
theorem cx_X8_emit_2 : ctsO QQ CF xxX8 cg_X8_emit_2 := ctsO_nil
theorem ct_X8_emit_2 : ctrO QQ CF ck_X8_emit_2 mX8_emit := chk_ok (Q := QQ) (QP := QPl) (C := CF) (c := ck_X8_emit_2) (G := cg_X8_emit_2) (X := xxX8) (M := mX8_emit) (t := tX8_emit) (anns := ca_X8_emit_2) 1 xx8 pl8 rfl kX8_emit qq_ok cx_X8_emit_2 cc_X8_emit_2
def ck_X8_emit_3 : AK := (1, [.inr (.inl [57]), .inl fr, .inl fr], [57, 58], false, [([fr, fr], .inr (.inr 9), [])], [])
def cg_X8_emit_3 : List (Nat × AK) := []
def ca_X8_emit_3 : List (Nat × AA) := []
set_option maxRecDepth 100000 in
theorem cc_X8_emit_3 : aChk QPl CF ck_X8_emit_3 cg_X8_emit_3 xxX8 mX8_emit tX8_emit ca_X8_emit_3 [] 1 = true := by decide +kernel
theorem cx_X8_emit_3 : ctsO QQ CF xxX8 cg_X8_emit_3 := ctsO_nil
theorem ct_X8_emit_3 : ctrO QQ CF ck_X8_emit_3 mX8_emit := chk_ok (Q := QQ) (QP := QPl) (C := CF) (c := ck_X8_emit_3) (G := cg_X8_emit_3) (X := xxX8) (M := mX8_emit) (t := tX8_emit) (anns := ca_X8_emit_3) 1 xx8 pl8 rfl kX8_emit qq_ok cx_X8_emit_3 cc_X8_emit_3
def ck_X8_emit_4 : AK := (1, [.inr (.inl [62]), .inl fr, .inl fr], [62, 63], false, [([fr, fr], .inr (.inr 9), [])], [])
def cg_X8_emit_4 : List (Nat × AK) := []
def ca_X8_emit_4 : List (Nat × AA) := []
set_option maxRecDepth 100000 in
theorem cc_X8_emit_4 : aChk QPl CF ck_X8_emit_4 cg_X8_emit_4 xxX8 mX8_emit tX8_emit ca_X8_emit_4 [] 1 = true := by decide +kernel
theorem cx_X8_emit_4 : ctsO QQ CF xxX8 cg_X8_emit_4 := ctsO_nil
theorem ct_X8_emit_4 : ctrO QQ CF ck_X8_emit_4 mX8_emit := chk_ok (Q := QQ) (QP := QPl) (C := CF) (c := ck_X8_emit_4) (G := cg_X8_emit_4) (X := xxX8) (M := mX8_emit) (t := tX8_emit) (anns := ca_X8_emit_4) 1 xx8 pl8 rfl kX8_emit qq_ok cx_X8_emit_4 cc_X8_emit_4
def ck_X8_emit_5 : AK := (1, [.inr (.inl [18, 47, 52, 57, 62]), .inl fr, .inl fr], [18, 19, 47, 48, 52, 53, 57, 58, 62, 63], false, [([fr, fr], .inr (.inr 9), [])], [])
theorem ct_X8_emit_5 : ctrO QQ CF ck_X8_emit_5 mX8_emit := by
  refine ctr_uni (fun p hp => ?_)
  simp only [List.mem_cons, List.not_mem_nil, or_false] at hp
  rcases hp with rfl | rfl | rfl | rfl | rfl
  · exact ⟨_, _, ct_X8_emit_0, by decide, by decide⟩
  · exact ⟨_, _, ct_X8_emit_1, by decide, by decide⟩
  · exact ⟨_, _, ct_X8_emit_2, by decide, by decide⟩
  · exact ⟨_, _, ct_X8_emit_3, by decide, by decide⟩
  · exact ⟨_, _, ct_X8_emit_4, by decide, by decide⟩
def ck_X5_name_0 : AK := (2, [.inr (.inl [35]), .inl fr], [18, 19, 35, 47, 48, 52, 53, 57, 58, 62, 63], false, [([fr], .inl (.ofNat 0, .ofNat 0), []), ([fr], .inl (.ofNat 1, .ofNat 1), [])], [])
def cg_X5_name_0 : List (Nat × AK) := [(75, ck_X5_fail_0), (127, ck_X8_emit_5), (52, ck_X5_advance_0)]
def ca_X5_name_0 : List (Nat × AA) := []
set_option maxRecDepth 100000 in
theorem cc_X5_name_0 : aChk QPl CF ck_X5_name_0 cg_X5_name_0 xxX5 mX5_name tX5_name ca_X5_name_0 [] 1 = true := by decide +kernel
theorem cx_X5_name_0 : ctsO QQ CF xxX5 cg_X5_name_0 := ctsO_cons rfl ct_X5_fail_0 (ctsO_cons rfl ct_X8_emit_5 (ctsO_cons rfl ct_X5_advance_0 (ctsO_nil)))
theorem ct_X5_name_0 : ctrO QQ CF ck_X5_name_0 mX5_name := chk_ok (Q := QQ) (QP := QPl) (C := CF) (c := ck_X5_name_0) (G := cg_X5_name_0) (X := xxX5) (M := mX5_name) (t := tX5_name) (anns := ca_X5_name_0) 1 xx5 pl5 rfl kX5_name qq_ok cx_X5_name_0 cc_X5_name_0
def ck_X5_one_0 : AK := (3, [.inr (.inl [35]), .inl (.ofNat 8, .ofNat 8)], [18, 19, 35, 47, 48, 52, 53, 57, 58, 62, 63], false, [([(.ofNat 8, .ofNat 8)], .inl (.ofNat 0, .ofNat 0), []), ([(.ofNat 8, .ofNat 8)], .inl (.ofNat 1, .ofNat 1), [])], [])
def cg_X5_one_0 : List (Nat × AK) := [(127, ck_X8_emit_5), (117, ck_X5_number_0), (146, ck_X5_name_0), (78, ck_X5_isWord_0), (75, ck_X5_fail_0)]
def ca_X5_one_0 : List (Nat × AA) := []
set_option maxRecDepth 100000 in
theorem cc_X5_one_0 : aChk QPl CF ck_X5_one_0 cg_X5_one_0 xxX5 mX5_one tX5_one ca_X5_one_0 [] 1 = true := by decide +kernel
theorem cx_X5_one_0 : ctsO QQ CF xxX5 cg_X5_one_0 := ctsO_cons rfl ct_X8_emit_5 (ctsO_cons rfl ct_X5_number_0 (ctsO_cons rfl ct_X5_name_0 (ctsO_cons rfl ct_X5_isWord_0 (ctsO_cons rfl ct_X5_fail_0 (ctsO_nil)))))
theorem ct_X5_one_0 : ctrO QQ CF ck_X5_one_0 mX5_one := chk_ok (Q := QQ) (QP := QPl) (C := CF) (c := ck_X5_one_0) (G := cg_X5_one_0) (X := xxX5) (M := mX5_one) (t := tX5_one) (anns := ca_X5_one_0) 1 xx5 pl5 rfl kX5_one qq_ok cx_X5_one_0 cc_X5_one_0
def ck_X5_part_0 : AK := (4, [.inr (.inl [35]), .inl (.ofNat 8, .ofNat 8)], [18, 19, 35, 47, 48, 52, 53, 57, 58, 62, 63], false, [([(.ofNat 8, .ofNat 8)], .inl (.ofNat 0, .ofNat 0), []), ([(.ofNat 8, .ofNat 8)], .inl (.ofNat 1, .ofNat 1), [])], [])
def cg_X5_part_0 : List (Nat × AK) := [(117, ck_X5_number_0), (121, ck_X5_word_0), (137, ck_X5_one_0), (127, ck_X8_emit_5)]
def ca_X5_part_0 : List (Nat × AA) := []
set_option maxRecDepth 100000 in
theorem cc_X5_part_0 : aChk QPl CF ck_X5_part_0 cg_X5_part_0 xxX5 mX5_part tX5_part ca_X5_part_0 [] 1 = true := by decide +kernel
theorem cx_X5_part_0 : ctsO QQ CF xxX5 cg_X5_part_0 := ctsO_cons rfl ct_X5_number_0 (ctsO_cons rfl ct_X5_word_0 (ctsO_cons rfl ct_X5_one_0 (ctsO_cons rfl ct_X8_emit_5 (ctsO_nil))))
theorem ct_X5_part_0 : ctrO QQ CF ck_X5_part_0 mX5_part := chk_ok (Q := QQ) (QP := QPl) (C := CF) (c := ck_X5_part_0) (G := cg_X5_part_0) (X := xxX5) (M := mX5_part) (t := tX5_part) (anns := ca_X5_part_0) 1 xx5 pl5 rfl kX5_part qq_ok cx_X5_part_0 cc_X5_part_0
def ck_X5_product_0 : AK := (4, [.inr (.inl [35]), .inl (.ofNat 8, .ofNat 8)], [18, 19, 35, 47, 48, 52, 53, 57, 58, 62, 63], false, [([(.ofNat 8, .ofNat 8)], .inl (.ofNat 1, .ofNat 1), []), ([(.ofNat 8, .ofNat 8)], .inl (.ofNat 0, .ofNat 0), []), ([(.ofNat 8, .ofNat 8)], .inl (.ofNat 0, .ofNat 1), [])], [])
def cg_X5_product_0 : List (Nat × AK) := [(137, ck_X5_one_0), (52, ck_X5_advance_0), (127, ck_X8_emit_5)]
def ca_X5_product_0 : List (Nat × AA) := [(8, [(.ofNat 0, .ofNat 0), (.ofNat 8, .ofNat 8), (.ofNat 0, .ofNat 1), (.ofNat 0, .ofNat 300)], [.inr (.inl [35]), .inl (1, .ofNat 0), .inl (2, .ofNat 0), .inl (3, .ofNat 0), .inr (.inr 0)], [], [], [(0, 2, 0), (0, 3, 0)], (.ofNat 300, [.ofNat 0, .ofNat 0, .ofNat 0, .negSucc 0]))]
set_option maxRecDepth 100000 in
theorem cc_X5_product_0 : aChk QPl CF ck_X5_product_0 cg_X5_product_0 xxX5 mX5_product tX5_product ca_X5_product_0 [] 301 = true := by decide +kernel
theorem cx_X5_product_0 : ctsO QQ CF xxX5 cg_X5_product_0 := ctsO_cons rfl ct_X5_one_0 (ctsO_cons rfl ct_X5_advance_0 (ctsO_cons rfl ct_X8_emit_5 (ctsO_nil)))
theorem ct_X5_product_0 : ctrO QQ CF ck_X5_product_0 mX5_product := chk_ok (Q := QQ) (QP := QPl) (C := CF) (c := ck_X5_product_0) (G := cg_X5_product_0) (X := xxX5) (M := mX5_product) (t := tX5_product) (anns := ca_X5_product_0) 301 xx5 pl5 rfl kX5_product qq_ok cx_X5_product_0 cc_X5_product_0
def ck_X5_sum_0 : AK := (5, [.inr (.inl [35]), .inl (.ofNat 8, .ofNat 8)], [18, 19, 35, 47, 48, 52, 53, 57, 58, 62, 63], false, [([(.ofNat 8, .ofNat 8)], .inl (.ofNat 1, .ofNat 1), []), ([(.ofNat 8, .ofNat 8)], .inl (.ofNat 0, .ofNat 0), []), ([(.ofNat 8, .ofNat 8)], .inl (.ofNat 0, .ofNat 1), [])], [])
def cg_X5_sum_0 : List (Nat × AK) := [(134, ck_X5_product_0), (52, ck_X5_advance_0), (127, ck_X8_emit_5)]
def ca_X5_sum_0 : List (Nat × AA) := [(8, [(.ofNat 0, .ofNat 0), (.ofNat 8, .ofNat 8), (.ofNat 0, .ofNat 1), (.ofNat 0, .ofNat 300)], [.inr (.inl [35]), .inl (1, .ofNat 0), .inl (2, .ofNat 0), .inl (3, .ofNat 0), .inr (.inr 0)], [], [], [(0, 2, 0), (0, 3, 0)], (.ofNat 300, [.ofNat 0, .ofNat 0, .ofNat 0, .negSucc 0]))]
set_option maxRecDepth 100000 in
theorem cc_X5_sum_0 : aChk QPl CF ck_X5_sum_0 cg_X5_sum_0 xxX5 mX5_sum tX5_sum ca_X5_sum_0 [] 301 = true := by decide +kernel
theorem cx_X5_sum_0 : ctsO QQ CF xxX5 cg_X5_sum_0 := ctsO_cons rfl ct_X5_product_0 (ctsO_cons rfl ct_X5_advance_0 (ctsO_cons rfl ct_X8_emit_5 (ctsO_nil)))
theorem ct_X5_sum_0 : ctrO QQ CF ck_X5_sum_0 mX5_sum := chk_ok (Q := QQ) (QP := QPl) (C := CF) (c := ck_X5_sum_0) (G := cg_X5_sum_0) (X := xxX5) (M := mX5_sum) (t := tX5_sum) (anns := ca_X5_sum_0) 301 xx5 pl5 rfl kX5_sum qq_ok cx_X5_sum_0 cc_X5_sum_0
def ck_X5_one_1 : AK := (6, [.inr (.inl [35]), .inl (.ofNat 7, .ofNat 8)], [18, 19, 35, 47, 48, 52, 53, 57, 58, 62, 63], false, [([(.ofNat 7, .ofNat 8)], .inl (.ofNat 0, .ofNat 0), []), ([(.ofNat 7, .ofNat 8)], .inl (.ofNat 1, .ofNat 1), [])], [])
def cg_X5_one_1 : List (Nat × AK) := [(127, ck_X8_emit_5), (117, ck_X5_number_0), (146, ck_X5_name_0), (78, ck_X5_isWord_0), (75, ck_X5_fail_0), (52, ck_X5_advance_0), (149, ck_X5_part_0), (137, ck_X5_one_0), (104, ck_X5_sum_0), (94, ck_X5_sign_0)]
def ca_X5_one_1 : List (Nat × AA) := []
set_option maxRecDepth 100000 in
theorem cc_X5_one_1 : aChk QPl CF ck_X5_one_1 cg_X5_one_1 xxX5 mX5_one tX5_one ca_X5_one_1 [] 1 = true := by decide +kernel
theorem cx_X5_one_1 : ctsO QQ CF xxX5 cg_X5_one_1 := ctsO_cons rfl ct_X8_emit_5 (ctsO_cons rfl ct_X5_number_0 (ctsO_cons rfl ct_X5_name_0 (ctsO_cons rfl ct_X5_isWord_0 (ctsO_cons rfl ct_X5_fail_0 (ctsO_cons rfl ct_X5_advance_0 (ctsO_cons rfl ct_X5_part_0 (ctsO_cons rfl ct_X5_one_0 (ctsO_cons rfl ct_X5_sum_0 (ctsO_cons rfl ct_X5_sign_0 (ctsO_nil))))))))))
theorem ct_X5_one_1 : ctrO QQ CF ck_X5_one_1 mX5_one := chk_ok (Q := QQ) (QP := QPl) (C := CF) (c := ck_X5_one_1) (G := cg_X5_one_1) (X := xxX5) (M := mX5_one) (t := tX5_one) (anns := ca_X5_one_1) 1 xx5 pl5 rfl kX5_one qq_ok cx_X5_one_1 cc_X5_one_1
def ck_X5_part_1 : AK := (7, [.inr (.inl [35]), .inl (.ofNat 7, .ofNat 8)], [18, 19, 35, 47, 48, 52, 53, 57, 58, 62, 63], false, [([(.ofNat 7, .ofNat 8)], .inl (.ofNat 0, .ofNat 0), []), ([(.ofNat 7, .ofNat 8)], .inl (.ofNat 1, .ofNat 1), [])], [])
def cg_X5_part_1 : List (Nat × AK) := [(117, ck_X5_number_0), (121, ck_X5_word_0), (137, ck_X5_one_1), (127, ck_X8_emit_5)]
def ca_X5_part_1 : List (Nat × AA) := []
set_option maxRecDepth 100000 in
theorem cc_X5_part_1 : aChk QPl CF ck_X5_part_1 cg_X5_part_1 xxX5 mX5_part tX5_part ca_X5_part_1 [] 1 = true := by decide +kernel
theorem cx_X5_part_1 : ctsO QQ CF xxX5 cg_X5_part_1 := ctsO_cons rfl ct_X5_number_0 (ctsO_cons rfl ct_X5_word_0 (ctsO_cons rfl ct_X5_one_1 (ctsO_cons rfl ct_X8_emit_5 (ctsO_nil))))
theorem ct_X5_part_1 : ctrO QQ CF ck_X5_part_1 mX5_part := chk_ok (Q := QQ) (QP := QPl) (C := CF) (c := ck_X5_part_1) (G := cg_X5_part_1) (X := xxX5) (M := mX5_part) (t := tX5_part) (anns := ca_X5_part_1) 1 xx5 pl5 rfl kX5_part qq_ok cx_X5_part_1 cc_X5_part_1
def ck_X5_product_1 : AK := (7, [.inr (.inl [35]), .inl (.ofNat 7, .ofNat 8)], [18, 19, 35, 47, 48, 52, 53, 57, 58, 62, 63], false, [([(.ofNat 7, .ofNat 8)], .inl (.ofNat 1, .ofNat 1), []), ([(.ofNat 7, .ofNat 8)], .inl (.ofNat 0, .ofNat 0), []), ([(.ofNat 7, .ofNat 8)], .inl (.ofNat 0, .ofNat 1), [])], [])
def cg_X5_product_1 : List (Nat × AK) := [(137, ck_X5_one_1), (52, ck_X5_advance_0), (127, ck_X8_emit_5)]
def ca_X5_product_1 : List (Nat × AA) := [(8, [(.ofNat 0, .ofNat 0), (.ofNat 7, .ofNat 8), (.ofNat 0, .ofNat 1), (.ofNat 0, .ofNat 300)], [.inr (.inl [35]), .inl (1, .ofNat 0), .inl (2, .ofNat 0), .inl (3, .ofNat 0), .inr (.inr 0)], [], [], [(0, 2, 0), (0, 3, 0)], (.ofNat 300, [.ofNat 0, .ofNat 0, .ofNat 0, .negSucc 0]))]
set_option maxRecDepth 100000 in
theorem cc_X5_product_1 : aChk QPl CF ck_X5_product_1 cg_X5_product_1 xxX5 mX5_product tX5_product ca_X5_product_1 [] 301 = true := by decide +kernel
theorem cx_X5_product_1 : ctsO QQ CF xxX5 cg_X5_product_1 := ctsO_cons rfl ct_X5_one_1 (ctsO_cons rfl ct_X5_advance_0 (ctsO_cons rfl ct_X8_emit_5 (ctsO_nil)))
theorem ct_X5_product_1 : ctrO QQ CF ck_X5_product_1 mX5_product := chk_ok (Q := QQ) (QP := QPl) (C := CF) (c := ck_X5_product_1) (G := cg_X5_product_1) (X := xxX5) (M := mX5_product) (t := tX5_product) (anns := ca_X5_product_1) 301 xx5 pl5 rfl kX5_product qq_ok cx_X5_product_1 cc_X5_product_1
def ck_X5_sum_1 : AK := (8, [.inr (.inl [35]), .inl (.ofNat 7, .ofNat 8)], [18, 19, 35, 47, 48, 52, 53, 57, 58, 62, 63], false, [([(.ofNat 7, .ofNat 8)], .inl (.ofNat 1, .ofNat 1), []), ([(.ofNat 7, .ofNat 8)], .inl (.ofNat 0, .ofNat 0), []), ([(.ofNat 7, .ofNat 8)], .inl (.ofNat 0, .ofNat 1), [])], [])
def cg_X5_sum_1 : List (Nat × AK) := [(134, ck_X5_product_1), (52, ck_X5_advance_0), (127, ck_X8_emit_5)]
def ca_X5_sum_1 : List (Nat × AA) := [(8, [(.ofNat 0, .ofNat 0), (.ofNat 7, .ofNat 8), (.ofNat 0, .ofNat 1), (.ofNat 0, .ofNat 300)], [.inr (.inl [35]), .inl (1, .ofNat 0), .inl (2, .ofNat 0), .inl (3, .ofNat 0), .inr (.inr 0)], [], [], [(0, 2, 0), (0, 3, 0)], (.ofNat 300, [.ofNat 0, .ofNat 0, .ofNat 0, .negSucc 0]))]
set_option maxRecDepth 100000 in
theorem cc_X5_sum_1 : aChk QPl CF ck_X5_sum_1 cg_X5_sum_1 xxX5 mX5_sum tX5_sum ca_X5_sum_1 [] 301 = true := by decide +kernel
theorem cx_X5_sum_1 : ctsO QQ CF xxX5 cg_X5_sum_1 := ctsO_cons rfl ct_X5_product_1 (ctsO_cons rfl ct_X5_advance_0 (ctsO_cons rfl ct_X8_emit_5 (ctsO_nil)))
theorem ct_X5_sum_1 : ctrO QQ CF ck_X5_sum_1 mX5_sum := chk_ok (Q := QQ) (QP := QPl) (C := CF) (c := ck_X5_sum_1) (G := cg_X5_sum_1) (X := xxX5) (M := mX5_sum) (t := tX5_sum) (anns := ca_X5_sum_1) 301 xx5 pl5 rfl kX5_sum qq_ok cx_X5_sum_1 cc_X5_sum_1
def ck_X5_one_2 : AK := (9, [.inr (.inl [35]), .inl (.ofNat 6, .ofNat 8)], [18, 19, 35, 47, 48, 52, 53, 57, 58, 62, 63], false, [([(.ofNat 6, .ofNat 8)], .inl (.ofNat 0, .ofNat 0), []), ([(.ofNat 6, .ofNat 8)], .inl (.ofNat 1, .ofNat 1), [])], [])
def cg_X5_one_2 : List (Nat × AK) := [(127, ck_X8_emit_5), (117, ck_X5_number_0), (146, ck_X5_name_0), (78, ck_X5_isWord_0), (75, ck_X5_fail_0), (52, ck_X5_advance_0), (149, ck_X5_part_1), (137, ck_X5_one_1), (104, ck_X5_sum_1), (94, ck_X5_sign_0)]
def ca_X5_one_2 : List (Nat × AA) := []
set_option maxRecDepth 100000 in
theorem cc_X5_one_2 : aChk QPl CF ck_X5_one_2 cg_X5_one_2 xxX5 mX5_one tX5_one ca_X5_one_2 [] 1 = true := by decide +kernel
theorem cx_X5_one_2 : ctsO QQ CF xxX5 cg_X5_one_2 := ctsO_cons rfl ct_X8_emit_5 (ctsO_cons rfl ct_X5_number_0 (ctsO_cons rfl ct_X5_name_0 (ctsO_cons rfl ct_X5_isWord_0 (ctsO_cons rfl ct_X5_fail_0 (ctsO_cons rfl ct_X5_advance_0 (ctsO_cons rfl ct_X5_part_1 (ctsO_cons rfl ct_X5_one_1 (ctsO_cons rfl ct_X5_sum_1 (ctsO_cons rfl ct_X5_sign_0 (ctsO_nil))))))))))
theorem ct_X5_one_2 : ctrO QQ CF ck_X5_one_2 mX5_one := chk_ok (Q := QQ) (QP := QPl) (C := CF) (c := ck_X5_one_2) (G := cg_X5_one_2) (X := xxX5) (M := mX5_one) (t := tX5_one) (anns := ca_X5_one_2) 1 xx5 pl5 rfl kX5_one qq_ok cx_X5_one_2 cc_X5_one_2
def ck_X5_part_2 : AK := (10, [.inr (.inl [35]), .inl (.ofNat 6, .ofNat 8)], [18, 19, 35, 47, 48, 52, 53, 57, 58, 62, 63], false, [([(.ofNat 6, .ofNat 8)], .inl (.ofNat 0, .ofNat 0), []), ([(.ofNat 6, .ofNat 8)], .inl (.ofNat 1, .ofNat 1), [])], [])
def cg_X5_part_2 : List (Nat × AK) := [(117, ck_X5_number_0), (121, ck_X5_word_0), (137, ck_X5_one_2), (127, ck_X8_emit_5)]
def ca_X5_part_2 : List (Nat × AA) := []
set_option maxRecDepth 100000 in
theorem cc_X5_part_2 : aChk QPl CF ck_X5_part_2 cg_X5_part_2 xxX5 mX5_part tX5_part ca_X5_part_2 [] 1 = true := by decide +kernel
theorem cx_X5_part_2 : ctsO QQ CF xxX5 cg_X5_part_2 := ctsO_cons rfl ct_X5_number_0 (ctsO_cons rfl ct_X5_word_0 (ctsO_cons rfl ct_X5_one_2 (ctsO_cons rfl ct_X8_emit_5 (ctsO_nil))))
theorem ct_X5_part_2 : ctrO QQ CF ck_X5_part_2 mX5_part := chk_ok (Q := QQ) (QP := QPl) (C := CF) (c := ck_X5_part_2) (G := cg_X5_part_2) (X := xxX5) (M := mX5_part) (t := tX5_part) (anns := ca_X5_part_2) 1 xx5 pl5 rfl kX5_part qq_ok cx_X5_part_2 cc_X5_part_2
def ck_X5_product_2 : AK := (10, [.inr (.inl [35]), .inl (.ofNat 6, .ofNat 8)], [18, 19, 35, 47, 48, 52, 53, 57, 58, 62, 63], false, [([(.ofNat 6, .ofNat 8)], .inl (.ofNat 1, .ofNat 1), []), ([(.ofNat 6, .ofNat 8)], .inl (.ofNat 0, .ofNat 0), []), ([(.ofNat 6, .ofNat 8)], .inl (.ofNat 0, .ofNat 1), [])], [])
def cg_X5_product_2 : List (Nat × AK) := [(137, ck_X5_one_2), (52, ck_X5_advance_0), (127, ck_X8_emit_5)]
def ca_X5_product_2 : List (Nat × AA) := [(8, [(.ofNat 0, .ofNat 0), (.ofNat 6, .ofNat 8), (.ofNat 0, .ofNat 1), (.ofNat 0, .ofNat 300)], [.inr (.inl [35]), .inl (1, .ofNat 0), .inl (2, .ofNat 0), .inl (3, .ofNat 0), .inr (.inr 0)], [], [], [(0, 2, 0), (0, 3, 0)], (.ofNat 300, [.ofNat 0, .ofNat 0, .ofNat 0, .negSucc 0]))]
set_option maxRecDepth 100000 in
theorem cc_X5_product_2 : aChk QPl CF ck_X5_product_2 cg_X5_product_2 xxX5 mX5_product tX5_product ca_X5_product_2 [] 301 = true := by decide +kernel
theorem cx_X5_product_2 : ctsO QQ CF xxX5 cg_X5_product_2 := ctsO_cons rfl ct_X5_one_2 (ctsO_cons rfl ct_X5_advance_0 (ctsO_cons rfl ct_X8_emit_5 (ctsO_nil)))
theorem ct_X5_product_2 : ctrO QQ CF ck_X5_product_2 mX5_product := chk_ok (Q := QQ) (QP := QPl) (C := CF) (c := ck_X5_product_2) (G := cg_X5_product_2) (X := xxX5) (M := mX5_product) (t := tX5_product) (anns := ca_X5_product_2) 301 xx5 pl5 rfl kX5_product qq_ok cx_X5_product_2 cc_X5_product_2
def ck_X5_sum_2 : AK := (11, [.inr (.inl [35]), .inl (.ofNat 6, .ofNat 8)], [18, 19, 35, 47, 48, 52, 53, 57, 58, 62, 63], false, [([(.ofNat 6, .ofNat 8)], .inl (.ofNat 1, .ofNat 1), []), ([(.ofNat 6, .ofNat 8)], .inl (.ofNat 0, .ofNat 0), []), ([(.ofNat 6, .ofNat 8)], .inl (.ofNat 0, .ofNat 1), [])], [])
def cg_X5_sum_2 : List (Nat × AK) := [(134, ck_X5_product_2), (52, ck_X5_advance_0), (127, ck_X8_emit_5)]
def ca_X5_sum_2 : List (Nat × AA) := [(8, [(.ofNat 0, .ofNat 0), (.ofNat 6, .ofNat 8), (.ofNat 0, .ofNat 1), (.ofNat 0, .ofNat 300)], [.inr (.inl [35]), .inl (1, .ofNat 0), .inl (2, .ofNat 0), .inl (3, .ofNat 0), .inr (.inr 0)], [], [], [(0, 2, 0), (0, 3, 0)], (.ofNat 300, [.ofNat 0, .ofNat 0, .ofNat 0, .negSucc 0]))]
set_option maxRecDepth 100000 in
theorem cc_X5_sum_2 : aChk QPl CF ck_X5_sum_2 cg_X5_sum_2 xxX5 mX5_sum tX5_sum ca_X5_sum_2 [] 301 = true := by decide +kernel
theorem cx_X5_sum_2 : ctsO QQ CF xxX5 cg_X5_sum_2 := ctsO_cons rfl ct_X5_product_2 (ctsO_cons rfl ct_X5_advance_0 (ctsO_cons rfl ct_X8_emit_5 (ctsO_nil)))
theorem ct_X5_sum_2 : ctrO QQ CF ck_X5_sum_2 mX5_sum := chk_ok (Q := QQ) (QP := QPl) (C := CF) (c := ck_X5_sum_2) (G := cg_X5_sum_2) (X := xxX5) (M := mX5_sum) (t := tX5_sum) (anns := ca_X5_sum_2) 301 xx5 pl5 rfl kX5_sum qq_ok cx_X5_sum_2 cc_X5_sum_2
def ck_X5_one_3 : AK := (12, [.inr (.inl [35]), .inl (.ofNat 5, .ofNat 8)], [18, 19, 35, 47, 48, 52, 53, 57, 58, 62, 63], false, [([(.ofNat 5, .ofNat 8)], .inl (.ofNat 0, .ofNat 0), []), ([(.ofNat 5, .ofNat 8)], .inl (.ofNat 1, .ofNat 1), [])], [])
def cg_X5_one_3 : List (Nat × AK) := [(127, ck_X8_emit_5), (117, ck_X5_number_0), (146, ck_X5_name_0), (78, ck_X5_isWord_0), (75, ck_X5_fail_0), (52, ck_X5_advance_0), (149, ck_X5_part_2), (137, ck_X5_one_2), (104, ck_X5_sum_2), (94, ck_X5_sign_0)]
def ca_X5_one_3 : List (Nat × AA) := []
set_option maxRecDepth 100000 in
theorem cc_X5_one_3 : aChk QPl CF ck_X5_one_3 cg_X5_one_3 xxX5 mX5_one tX5_one ca_X5_one_3 [] 1 = true := by decide +kernel
theorem cx_X5_one_3 : ctsO QQ CF xxX5 cg_X5_one_3 := ctsO_cons rfl ct_X8_emit_5 (ctsO_cons rfl ct_X5_number_0 (ctsO_cons rfl ct_X5_name_0 (ctsO_cons rfl ct_X5_isWord_0 (ctsO_cons rfl ct_X5_fail_0 (ctsO_cons rfl ct_X5_advance_0 (ctsO_cons rfl ct_X5_part_2 (ctsO_cons rfl ct_X5_one_2 (ctsO_cons rfl ct_X5_sum_2 (ctsO_cons rfl ct_X5_sign_0 (ctsO_nil))))))))))
theorem ct_X5_one_3 : ctrO QQ CF ck_X5_one_3 mX5_one := chk_ok (Q := QQ) (QP := QPl) (C := CF) (c := ck_X5_one_3) (G := cg_X5_one_3) (X := xxX5) (M := mX5_one) (t := tX5_one) (anns := ca_X5_one_3) 1 xx5 pl5 rfl kX5_one qq_ok cx_X5_one_3 cc_X5_one_3
def ck_X5_part_3 : AK := (13, [.inr (.inl [35]), .inl (.ofNat 5, .ofNat 8)], [18, 19, 35, 47, 48, 52, 53, 57, 58, 62, 63], false, [([(.ofNat 5, .ofNat 8)], .inl (.ofNat 0, .ofNat 0), []), ([(.ofNat 5, .ofNat 8)], .inl (.ofNat 1, .ofNat 1), [])], [])
def cg_X5_part_3 : List (Nat × AK) := [(117, ck_X5_number_0), (121, ck_X5_word_0), (137, ck_X5_one_3), (127, ck_X8_emit_5)]
def ca_X5_part_3 : List (Nat × AA) := []
set_option maxRecDepth 100000 in
theorem cc_X5_part_3 : aChk QPl CF ck_X5_part_3 cg_X5_part_3 xxX5 mX5_part tX5_part ca_X5_part_3 [] 1 = true := by decide +kernel
theorem cx_X5_part_3 : ctsO QQ CF xxX5 cg_X5_part_3 := ctsO_cons rfl ct_X5_number_0 (ctsO_cons rfl ct_X5_word_0 (ctsO_cons rfl ct_X5_one_3 (ctsO_cons rfl ct_X8_emit_5 (ctsO_nil))))
theorem ct_X5_part_3 : ctrO QQ CF ck_X5_part_3 mX5_part := chk_ok (Q := QQ) (QP := QPl) (C := CF) (c := ck_X5_part_3) (G := cg_X5_part_3) (X := xxX5) (M := mX5_part) (t := tX5_part) (anns := ca_X5_part_3) 1 xx5 pl5 rfl kX5_part qq_ok cx_X5_part_3 cc_X5_part_3
def ck_X5_product_3 : AK := (13, [.inr (.inl [35]), .inl (.ofNat 5, .ofNat 8)], [18, 19, 35, 47, 48, 52, 53, 57, 58, 62, 63], false, [([(.ofNat 5, .ofNat 8)], .inl (.ofNat 1, .ofNat 1), []), ([(.ofNat 5, .ofNat 8)], .inl (.ofNat 0, .ofNat 0), []), ([(.ofNat 5, .ofNat 8)], .inl (.ofNat 0, .ofNat 1), [])], [])
def cg_X5_product_3 : List (Nat × AK) := [(137, ck_X5_one_3), (52, ck_X5_advance_0), (127, ck_X8_emit_5)]
def ca_X5_product_3 : List (Nat × AA) := [(8, [(.ofNat 0, .ofNat 0), (.ofNat 5, .ofNat 8), (.ofNat 0, .ofNat 1), (.ofNat 0, .ofNat 300)], [.inr (.inl [35]), .inl (1, .ofNat 0), .inl (2, .ofNat 0), .inl (3, .ofNat 0), .inr (.inr 0)], [], [], [(0, 2, 0), (0, 3, 0)], (.ofNat 300, [.ofNat 0, .ofNat 0, .ofNat 0, .negSucc 0]))]
set_option maxRecDepth 100000 in
theorem cc_X5_product_3 : aChk QPl CF ck_X5_product_3 cg_X5_product_3 xxX5 mX5_product tX5_product ca_X5_product_3 [] 301 = true := by decide +kernel
theorem cx_X5_product_3 : ctsO QQ CF xxX5 cg_X5_product_3 := ctsO_cons rfl ct_X5_one_3 (ctsO_cons rfl ct_X5_advance_0 (ctsO_cons rfl ct_X8_emit_5 (ctsO_nil)))
theorem ct_X5_product_3 : ctrO QQ CF ck_X5_product_3 mX5_product := chk_ok (Q := QQ) (QP := QPl) (C := CF) (c := ck_X5_product_3) (G := cg_X5_product_3) (X := xxX5) (M := mX5_product) (t := tX5_product) (anns := ca_X5_product_3) 301 xx5 pl5 rfl kX5_product qq_ok cx_X5_product_3 cc_X5_product_3
def ck_X5_sum_3 : AK := (14, [.inr (.inl [35]), .inl (.ofNat 5, .ofNat 8)], [18, 19, 35, 47, 48, 52, 53, 57, 58, 62, 63], false, [([(.ofNat 5, .ofNat 8)], .inl (.ofNat 1, .ofNat 1), []), ([(.ofNat 5, .ofNat 8)], .inl (.ofNat 0, .ofNat 0), []), ([(.ofNat 5, .ofNat 8)], .inl (.ofNat 0, .ofNat 1), [])], [])
def cg_X5_sum_3 : List (Nat × AK) := [(134, ck_X5_product_3), (52, ck_X5_advance_0), (127, ck_X8_emit_5)]
def ca_X5_sum_3 : List (Nat × AA) := [(8, [(.ofNat 0, .ofNat 0), (.ofNat 5, .ofNat 8), (.ofNat 0, .ofNat 1), (.ofNat 0, .ofNat 300)], [.inr (.inl [35]), .inl (1, .ofNat 0), .inl (2, .ofNat 0), .inl (3, .ofNat 0), .inr (.inr 0)], [], [], [(0, 2, 0), (0, 3, 0)], (.ofNat 300, [.ofNat 0, .ofNat 0, .ofNat 0, .negSucc 0]))]
set_option maxRecDepth 100000 in
theorem cc_X5_sum_3 : aChk QPl CF ck_X5_sum_3 cg_X5_sum_3 xxX5 mX5_sum tX5_sum ca_X5_sum_3 [] 301 = true := by decide +kernel
theorem cx_X5_sum_3 : ctsO QQ CF xxX5 cg_X5_sum_3 := ctsO_cons rfl ct_X5_product_3 (ctsO_cons rfl ct_X5_advance_0 (ctsO_cons rfl ct_X8_emit_5 (ctsO_nil)))
theorem ct_X5_sum_3 : ctrO QQ CF ck_X5_sum_3 mX5_sum := chk_ok (Q := QQ) (QP := QPl) (C := CF) (c := ck_X5_sum_3) (G := cg_X5_sum_3) (X := xxX5) (M := mX5_sum) (t := tX5_sum) (anns := ca_X5_sum_3) 301 xx5 pl5 rfl kX5_sum qq_ok cx_X5_sum_3 cc_X5_sum_3
def ck_X5_one_4 : AK := (15, [.inr (.inl [35]), .inl (.ofNat 4, .ofNat 8)], [18, 19, 35, 47, 48, 52, 53, 57, 58, 62, 63], false, [([(.ofNat 4, .ofNat 8)], .inl (.ofNat 0, .ofNat 0), []), ([(.ofNat 4, .ofNat 8)], .inl (.ofNat 1, .ofNat 1), [])], [])
def cg_X5_one_4 : List (Nat × AK) := [(127, ck_X8_emit_5), (117, ck_X5_number_0), (146, ck_X5_name_0), (78, ck_X5_isWord_0), (75, ck_X5_fail_0), (52, ck_X5_advance_0), (149, ck_X5_part_3), (137, ck_X5_one_3), (104, ck_X5_sum_3), (94, ck_X5_sign_0)]
def ca_X5_one_4 : List (Nat × AA) := []
set_option maxRecDepth 100000 in
theorem cc_X5_one_4 : aChk QPl CF ck_X5_one_4 cg_X5_one_4 xxX5 mX5_one tX5_one ca_X5_one_4 [] 1 = true := by decide +kernel
theorem cx_X5_one_4 : ctsO QQ CF xxX5 cg_X5_one_4 := ctsO_cons rfl ct_X8_emit_5 (ctsO_cons rfl ct_X5_number_0 (ctsO_cons rfl ct_X5_name_0 (ctsO_cons rfl ct_X5_isWord_0 (ctsO_cons rfl ct_X5_fail_0 (ctsO_cons rfl ct_X5_advance_0 (ctsO_cons rfl ct_X5_part_3 (ctsO_cons rfl ct_X5_one_3 (ctsO_cons rfl ct_X5_sum_3 (ctsO_cons rfl ct_X5_sign_0 (ctsO_nil))))))))))
theorem ct_X5_one_4 : ctrO QQ CF ck_X5_one_4 mX5_one := chk_ok (Q := QQ) (QP := QPl) (C := CF) (c := ck_X5_one_4) (G := cg_X5_one_4) (X := xxX5) (M := mX5_one) (t := tX5_one) (anns := ca_X5_one_4) 1 xx5 pl5 rfl kX5_one qq_ok cx_X5_one_4 cc_X5_one_4
def ck_X5_part_4 : AK := (16, [.inr (.inl [35]), .inl (.ofNat 4, .ofNat 8)], [18, 19, 35, 47, 48, 52, 53, 57, 58, 62, 63], false, [([(.ofNat 4, .ofNat 8)], .inl (.ofNat 0, .ofNat 0), []), ([(.ofNat 4, .ofNat 8)], .inl (.ofNat 1, .ofNat 1), [])], [])
def cg_X5_part_4 : List (Nat × AK) := [(117, ck_X5_number_0), (121, ck_X5_word_0), (137, ck_X5_one_4), (127, ck_X8_emit_5)]
def ca_X5_part_4 : List (Nat × AA) := []
set_option maxRecDepth 100000 in
theorem cc_X5_part_4 : aChk QPl CF ck_X5_part_4 cg_X5_part_4 xxX5 mX5_part tX5_part ca_X5_part_4 [] 1 = true := by decide +kernel
theorem cx_X5_part_4 : ctsO QQ CF xxX5 cg_X5_part_4 := ctsO_cons rfl ct_X5_number_0 (ctsO_cons rfl ct_X5_word_0 (ctsO_cons rfl ct_X5_one_4 (ctsO_cons rfl ct_X8_emit_5 (ctsO_nil))))
theorem ct_X5_part_4 : ctrO QQ CF ck_X5_part_4 mX5_part := chk_ok (Q := QQ) (QP := QPl) (C := CF) (c := ck_X5_part_4) (G := cg_X5_part_4) (X := xxX5) (M := mX5_part) (t := tX5_part) (anns := ca_X5_part_4) 1 xx5 pl5 rfl kX5_part qq_ok cx_X5_part_4 cc_X5_part_4
def ck_X5_product_4 : AK := (16, [.inr (.inl [35]), .inl (.ofNat 4, .ofNat 8)], [18, 19, 35, 47, 48, 52, 53, 57, 58, 62, 63], false, [([(.ofNat 4, .ofNat 8)], .inl (.ofNat 1, .ofNat 1), []), ([(.ofNat 4, .ofNat 8)], .inl (.ofNat 0, .ofNat 0), []), ([(.ofNat 4, .ofNat 8)], .inl (.ofNat 0, .ofNat 1), [])], [])
def cg_X5_product_4 : List (Nat × AK) := [(137, ck_X5_one_4), (52, ck_X5_advance_0), (127, ck_X8_emit_5)]
def ca_X5_product_4 : List (Nat × AA) := [(8, [(.ofNat 0, .ofNat 0), (.ofNat 4, .ofNat 8), (.ofNat 0, .ofNat 1), (.ofNat 0, .ofNat 300)], [.inr (.inl [35]), .inl (1, .ofNat 0), .inl (2, .ofNat 0), .inl (3, .ofNat 0), .inr (.inr 0)], [], [], [(0, 2, 0), (0, 3, 0)], (.ofNat 300, [.ofNat 0, .ofNat 0, .ofNat 0, .negSucc 0]))]
set_option maxRecDepth 100000 in
theorem cc_X5_product_4 : aChk QPl CF ck_X5_product_4 cg_X5_product_4 xxX5 mX5_product tX5_product ca_X5_product_4 [] 301 = true := by decide +kernel
theorem cx_X5_product_4 : ctsO QQ CF xxX5 cg_X5_product_4 := ctsO_cons rfl ct_X5_one_4 (ctsO_cons rfl ct_X5_advance_0 (ctsO_cons rfl ct_X8_emit_5 (ctsO_nil)))
theorem ct_X5_product_4 : ctrO QQ CF ck_X5_product_4 mX5_product := chk_ok (Q := QQ) (QP := QPl) (C := CF) (c := ck_X5_product_4) (G := cg_X5_product_4) (X := xxX5) (M := mX5_product) (t := tX5_product) (anns := ca_X5_product_4) 301 xx5 pl5 rfl kX5_product qq_ok cx_X5_product_4 cc_X5_product_4
def ck_X5_sum_4 : AK := (17, [.inr (.inl [35]), .inl (.ofNat 4, .ofNat 8)], [18, 19, 35, 47, 48, 52, 53, 57, 58, 62, 63], false, [([(.ofNat 4, .ofNat 8)], .inl (.ofNat 1, .ofNat 1), []), ([(.ofNat 4, .ofNat 8)], .inl (.ofNat 0, .ofNat 0), []), ([(.ofNat 4, .ofNat 8)], .inl (.ofNat 0, .ofNat 1), [])], [])
def cg_X5_sum_4 : List (Nat × AK) := [(134, ck_X5_product_4), (52, ck_X5_advance_0), (127, ck_X8_emit_5)]
def ca_X5_sum_4 : List (Nat × AA) := [(8, [(.ofNat 0, .ofNat 0), (.ofNat 4, .ofNat 8), (.ofNat 0, .ofNat 1), (.ofNat 0, .ofNat 300)], [.inr (.inl [35]), .inl (1, .ofNat 0), .inl (2, .ofNat 0), .inl (3, .ofNat 0), .inr (.inr 0)], [], [], [(0, 2, 0), (0, 3, 0)], (.ofNat 300, [.ofNat 0, .ofNat 0, .ofNat 0, .negSucc 0]))]
set_option maxRecDepth 100000 in
theorem cc_X5_sum_4 : aChk QPl CF ck_X5_sum_4 cg_X5_sum_4 xxX5 mX5_sum tX5_sum ca_X5_sum_4 [] 301 = true := by decide +kernel
theorem cx_X5_sum_4 : ctsO QQ CF xxX5 cg_X5_sum_4 := ctsO_cons rfl ct_X5_product_4 (ctsO_cons rfl ct_X5_advance_0 (ctsO_cons rfl ct_X8_emit_5 (ctsO_nil)))
theorem ct_X5_sum_4 : ctrO QQ CF ck_X5_sum_4 mX5_sum := chk_ok (Q := QQ) (QP := QPl) (C := CF) (c := ck_X5_sum_4) (G := cg_X5_sum_4) (X := xxX5) (M := mX5_sum) (t := tX5_sum) (anns := ca_X5_sum_4) 301 xx5 pl5 rfl kX5_sum qq_ok cx_X5_sum_4 cc_X5_sum_4
def ck_X5_one_5 : AK := (18, [.inr (.inl [35]), .inl (.ofNat 3, .ofNat 8)], [18, 19, 35, 47, 48, 52, 53, 57, 58, 62, 63], false, [([(.ofNat 3, .ofNat 8)], .inl (.ofNat 0, .ofNat 0), []), ([(.ofNat 3, .ofNat 8)], .inl (.ofNat 1, .ofNat 1), [])], [])
def cg_X5_one_5 : List (Nat × AK) := [(127, ck_X8_emit_5), (117, ck_X5_number_0), (146, ck_X5_name_0), (78, ck_X5_isWord_0), (75, ck_X5_fail_0), (52, ck_X5_advance_0), (149, ck_X5_part_4), (137, ck_X5_one_4), (104, ck_X5_sum_4), (94, ck_X5_sign_0)]
def ca_X5_one_5 : List (Nat × AA) := []
set_option maxRecDepth 100000 in
theorem cc_X5_one_5 : aChk QPl CF ck_X5_one_5 cg_X5_one_5 xxX5 mX5_one tX5_one ca_X5_one_5 [] 1 = true := by decide +kernel
theorem cx_X5_one_5 : ctsO QQ CF xxX5 cg_X5_one_5 := ctsO_cons rfl ct_X8_emit_5 (ctsO_cons rfl ct_X5_number_0 (ctsO_cons rfl ct_X5_name_0 (ctsO_cons rfl ct_X5_isWord_0 (ctsO_cons rfl ct_X5_fail_0 (ctsO_cons rfl ct_X5_advance_0 (ctsO_cons rfl ct_X5_part_4 (ctsO_cons rfl ct_X5_one_4 (ctsO_cons rfl ct_X5_sum_4 (ctsO_cons rfl ct_X5_sign_0 (ctsO_nil))))))))))
theorem ct_X5_one_5 : ctrO QQ CF ck_X5_one_5 mX5_one := chk_ok (Q := QQ) (QP := QPl) (C := CF) (c := ck_X5_one_5) (G := cg_X5_one_5) (X := xxX5) (M := mX5_one) (t := tX5_one) (anns := ca_X5_one_5) 1 xx5 pl5 rfl kX5_one qq_ok cx_X5_one_5 cc_X5_one_5
def ck_X5_part_5 : AK := (19, [.inr (.inl [35]), .inl (.ofNat 3, .ofNat 8)], [18, 19, 35, 47, 48, 52, 53, 57, 58, 62, 63], false, [([(.ofNat 3, .ofNat 8)], .inl (.ofNat 0, .ofNat 0), []), ([(.ofNat 3, .ofNat 8)], .inl (.ofNat 1, .ofNat 1), [])], [])
def cg_X5_part_5 : List (Nat × AK) := [(117, ck_X5_number_0), (121, ck_X5_word_0), (137, ck_X5_one_5), (127, ck_X8_emit_5)]
def ca_X5_part_5 : List (Nat × AA) := []
set_option maxRecDepth 100000 in
theorem cc_X5_part_5 : aChk QPl CF ck_X5_part_5 cg_X5_part_5 xxX5 mX5_part tX5_part ca_X5_part_5 [] 1 = true := by decide +kernel
theorem cx_X5_part_5 : ctsO QQ CF xxX5 cg_X5_part_5 := ctsO_cons rfl ct_X5_number_0 (ctsO_cons rfl ct_X5_word_0 (ctsO_cons rfl ct_X5_one_5 (ctsO_cons rfl ct_X8_emit_5 (ctsO_nil))))
theorem ct_X5_part_5 : ctrO QQ CF ck_X5_part_5 mX5_part := chk_ok (Q := QQ) (QP := QPl) (C := CF) (c := ck_X5_part_5) (G := cg_X5_part_5) (X := xxX5) (M := mX5_part) (t := tX5_part) (anns := ca_X5_part_5) 1 xx5 pl5 rfl kX5_part qq_ok cx_X5_part_5 cc_X5_part_5
def ck_X5_product_5 : AK := (19, [.inr (.inl [35]), .inl (.ofNat 3, .ofNat 8)], [18, 19, 35, 47, 48, 52, 53, 57, 58, 62, 63], false, [([(.ofNat 3, .ofNat 8)], .inl (.ofNat 1, .ofNat 1), []), ([(.ofNat 3, .ofNat 8)], .inl (.ofNat 0, .ofNat 0), []), ([(.ofNat 3, .ofNat 8)], .inl (.ofNat 0, .ofNat 1), [])], [])
def cg_X5_product_5 : List (Nat × AK) := [(137, ck_X5_one_5), (52, ck_X5_advance_0), (127, ck_X8_emit_5)]
def ca_X5_product_5 : List (Nat × AA) := [(8, [(.ofNat 0, .ofNat 0), (.ofNat 3, .ofNat 8), (.ofNat 0, .ofNat 1), (.ofNat 0, .ofNat 300)], [.inr (.inl [35]), .inl (1, .ofNat 0), .inl (2, .ofNat 0), .inl (3, .ofNat 0), .inr (.inr 0)], [], [], [(0, 2, 0), (0, 3, 0)], (.ofNat 300, [.ofNat 0, .ofNat 0, .ofNat 0, .negSucc 0]))]
set_option maxRecDepth 100000 in
theorem cc_X5_product_5 : aChk QPl CF ck_X5_product_5 cg_X5_product_5 xxX5 mX5_product tX5_product ca_X5_product_5 [] 301 = true := by decide +kernel
theorem cx_X5_product_5 : ctsO QQ CF xxX5 cg_X5_product_5 := ctsO_cons rfl ct_X5_one_5 (ctsO_cons rfl ct_X5_advance_0 (ctsO_cons rfl ct_X8_emit_5 (ctsO_nil)))
theorem ct_X5_product_5 : ctrO QQ CF ck_X5_product_5 mX5_product := chk_ok (Q := QQ) (QP := QPl) (C := CF) (c := ck_X5_product_5) (G := cg_X5_product_5) (X := xxX5) (M := mX5_product) (t := tX5_product) (anns := ca_X5_product_5) 301 xx5 pl5 rfl kX5_product qq_ok cx_X5_product_5 cc_X5_product_5
def ck_X5_sum_5 : AK := (20, [.inr (.inl [35]), .inl (.ofNat 3, .ofNat 8)], [18, 19, 35, 47, 48, 52, 53, 57, 58, 62, 63], false, [([(.ofNat 3, .ofNat 8)], .inl (.ofNat 1, .ofNat 1), []), ([(.ofNat 3, .ofNat 8)], .inl (.ofNat 0, .ofNat 0), []), ([(.ofNat 3, .ofNat 8)], .inl (.ofNat 0, .ofNat 1), [])], [])
def cg_X5_sum_5 : List (Nat × AK) := [(134, ck_X5_product_5), (52, ck_X5_advance_0), (127, ck_X8_emit_5)]
def ca_X5_sum_5 : List (Nat × AA) := [(8, [(.ofNat 0, .ofNat 0), (.ofNat 3, .ofNat 8), (.ofNat 0, .ofNat 1), (.ofNat 0, .ofNat 300)], [.inr (.inl [35]), .inl (1, .ofNat 0), .inl (2, .ofNat 0), .inl (3, .ofNat 0), .inr (.inr 0)], [], [], [(0, 2, 0), (0, 3, 0)], (.ofNat 300, [.ofNat 0, .ofNat 0, .ofNat 0, .negSucc 0]))]
set_option maxRecDepth 100000 in
theorem cc_X5_sum_5 : aChk QPl CF ck_X5_sum_5 cg_X5_sum_5 xxX5 mX5_sum tX5_sum ca_X5_sum_5 [] 301 = true := by decide +kernel
theorem cx_X5_sum_5 : ctsO QQ CF xxX5 cg_X5_sum_5 := ctsO_cons rfl ct_X5_product_5 (ctsO_cons rfl ct_X5_advance_0 (ctsO_cons rfl ct_X8_emit_5 (ctsO_nil)))
theorem ct_X5_sum_5 : ctrO QQ CF ck_X5_sum_5 mX5_sum := chk_ok (Q := QQ) (QP := QPl) (C := CF) (c := ck_X5_sum_5) (G := cg_X5_sum_5) (X := xxX5) (M := mX5_sum) (t := tX5_sum) (anns := ca_X5_sum_5) 301 xx5 pl5 rfl kX5_sum qq_ok cx_X5_sum_5 cc_X5_sum_5
def ck_X5_one_6 : AK := (21, [.inr (.inl [35]), .inl (.ofNat 2, .ofNat 8)], [18, 19, 35, 47, 48, 52, 53, 57, 58, 62, 63], false, [([(.ofNat 2, .ofNat 8)], .inl (.ofNat 0, .ofNat 0), []), ([(.ofNat 2, .ofNat 8)], .inl (.ofNat 1, .ofNat 1), [])], [])
def cg_X5_one_6 : List (Nat × AK) := [(127, ck_X8_emit_5), (117, ck_X5_number_0), (146, ck_X5_name_0), (78, ck_X5_isWord_0), (75, ck_X5_fail_0), (52, ck_X5_advance_0), (149, ck_X5_part_5), (137, ck_X5_one_5), (104, ck_X5_sum_5), (94, ck_X5_sign_0)]
def ca_X5_one_6 : List (Nat × AA) := []
set_option maxRecDepth 100000 in
theorem cc_X5_one_6 : aChk QPl CF ck_X5_one_6 cg_X5_one_6 xxX5 mX5_one tX5_one ca_X5_one_6 [] 1 = true := by decide +kernel
theorem cx_X5_one_6 : ctsO QQ CF xxX5 cg_X5_one_6 := ctsO_cons rfl ct_X8_emit_5 (ctsO_cons rfl ct_X5_number_0 (ctsO_cons rfl ct_X5_name_0 (ctsO_cons rfl ct_X5_isWord_0 (ctsO_cons rfl ct_X5_fail_0 (ctsO_cons rfl ct_X5_advance_0 (ctsO_cons rfl ct_X5_part_5 (ctsO_cons rfl ct_X5_one_5 (ctsO_cons rfl ct_X5_sum_5 (ctsO_cons rfl ct_X5_sign_0 (ctsO_nil))))))))))
theorem ct_X5_one_6 : ctrO QQ CF ck_X5_one_6 mX5_one := chk_ok (Q := QQ) (QP := QPl) (C := CF) (c := ck_X5_one_6) (G := cg_X5_one_6) (X := xxX5) (M := mX5_one) (t := tX5_one) (anns := ca_X5_one_6) 1 xx5 pl5 rfl kX5_one qq_ok cx_X5_one_6 cc_X5_one_6
def ck_X5_part_6 : AK := (22, [.inr (.inl [35]), .inl (.ofNat 2, .ofNat 8)], [18, 19, 35, 47, 48, 52, 53, 57, 58, 62, 63], false, [([(.ofNat 2, .ofNat 8)], .inl (.ofNat 0, .ofNat 0), []), ([(.ofNat 2, .ofNat 8)], .inl (.ofNat 1, .ofNat 1), [])], [])
def cg_X5_part_6 : List (Nat × AK) := [(117, ck_X5_number_0), (121, ck_X5_word_0), (137, ck_X5_one_6), (127, ck_X8_emit_5)]
def ca_X5_part_6 : List (Nat × AA) := []
set_option maxRecDepth 100000 in
theorem cc_X5_part_6 : aChk QPl CF ck_X5_part_6 cg_X5_part_6 xxX5 mX5_part tX5_part ca_X5_part_6 [] 1 = true := by decide +kernel
theorem cx_X5_part_6 : ctsO QQ CF xxX5 cg_X5_part_6 := ctsO_cons rfl ct_X5_number_0 (ctsO_cons rfl ct_X5_word_0 (ctsO_cons rfl ct_X5_one_6 (ctsO_cons rfl ct_X8_emit_5 (ctsO_nil))))
theorem ct_X5_part_6 : ctrO QQ CF ck_X5_part_6 mX5_part := chk_ok (Q := QQ) (QP := QPl) (C := CF) (c := ck_X5_part_6) (G := cg_X5_part_6) (X := xxX5) (M := mX5_part) (t := tX5_part) (anns := ca_X5_part_6) 1 xx5 pl5 rfl kX5_part qq_ok cx_X5_part_6 cc_X5_part_6
def ck_X5_product_6 : AK := (22, [.inr (.inl [35]), .inl (.ofNat 2, .ofNat 8)], [18, 19, 35, 47, 48, 52, 53, 57, 58, 62, 63], false, [([(.ofNat 2, .ofNat 8)], .inl (.ofNat 1, .ofNat 1), []), ([(.ofNat 2, .ofNat 8)], .inl (.ofNat 0, .ofNat 0), []), ([(.ofNat 2, .ofNat 8)], .inl (.ofNat 0, .ofNat 1), [])], [])
def cg_X5_product_6 : List (Nat × AK) := [(137, ck_X5_one_6), (52, ck_X5_advance_0), (127, ck_X8_emit_5)]
def ca_X5_product_6 : List (Nat × AA) := [(8, [(.ofNat 0, .ofNat 0), (.ofNat 2, .ofNat 8), (.ofNat 0, .ofNat 1), (.ofNat 0, .ofNat 300)], [.inr (.inl [35]), .inl (1, .ofNat 0), .inl (2, .ofNat 0), .inl (3, .ofNat 0), .inr (.inr 0)], [], [], [(0, 2, 0), (0, 3, 0)], (.ofNat 300, [.ofNat 0, .ofNat 0, .ofNat 0, .negSucc 0]))]
set_option maxRecDepth 100000 in
theorem cc_X5_product_6 : aChk QPl CF ck_X5_product_6 cg_X5_product_6 xxX5 mX5_product tX5_product ca_X5_product_6 [] 301 = true := by decide +kernel
theorem cx_X5_product_6 : ctsO QQ CF xxX5 cg_X5_product_6 := ctsO_cons rfl ct_X5_one_6 (ctsO_cons rfl ct_X5_advance_0 (ctsO_cons rfl ct_X8_emit_5 (ctsO_nil)))
theorem ct_X5_product_6 : ctrO QQ CF ck_X5_product_6 mX5_product := chk_ok (Q := QQ) (QP := QPl) (C := CF) (c := ck_X5_product_6) (G := cg_X5_product_6) (X := xxX5) (M := mX5_product) (t := tX5_product) (anns := ca_X5_product_6) 301 xx5 pl5 rfl kX5_product qq_ok cx_X5_product_6 cc_X5_product_6
def ck_X5_sum_6 : AK := (23, [.inr (.inl [35]), .inl (.ofNat 2, .ofNat 8)], [18, 19, 35, 47, 48, 52, 53, 57, 58, 62, 63], false, [([(.ofNat 2, .ofNat 8)], .inl (.ofNat 1, .ofNat 1), []), ([(.ofNat 2, .ofNat 8)], .inl (.ofNat 0, .ofNat 0), []), ([(.ofNat 2, .ofNat 8)], .inl (.ofNat 0, .ofNat 1), [])], [])
def cg_X5_sum_6 : List (Nat × AK) := [(134, ck_X5_product_6), (52, ck_X5_advance_0), (127, ck_X8_emit_5)]
def ca_X5_sum_6 : List (Nat × AA) := [(8, [(.ofNat 0, .ofNat 0), (.ofNat 2, .ofNat 8), (.ofNat 0, .ofNat 1), (.ofNat 0, .ofNat 300)], [.inr (.inl [35]), .inl (1, .ofNat 0), .inl (2, .ofNat 0), .inl (3, .ofNat 0), .inr (.inr 0)], [], [], [(0, 2, 0), (0, 3, 0)], (.ofNat 300, [.ofNat 0, .ofNat 0, .ofNat 0, .negSucc 0]))]
set_option maxRecDepth 100000 in
theorem cc_X5_sum_6 : aChk QPl CF ck_X5_sum_6 cg_X5_sum_6 xxX5 mX5_sum tX5_sum ca_X5_sum_6 [] 301 = true := by decide +kernel
theorem cx_X5_sum_6 : ctsO QQ CF xxX5 cg_X5_sum_6 := ctsO_cons rfl ct_X5_product_6 (ctsO_cons rfl ct_X5_advance_0 (ctsO_cons rfl ct_X8_emit_5 (ctsO_nil)))
theorem ct_X5_sum_6 : ctrO QQ CF ck_X5_sum_6 mX5_sum := chk_ok (Q := QQ) (QP := QPl) (C := CF) (c := ck_X5_sum_6) (G := cg_X5_sum_6) (X := xxX5) (M := mX5_sum) (t := tX5_sum) (anns := ca_X5_sum_6) 301 xx5 pl5 rfl kX5_sum qq_ok cx_X5_sum_6 cc_X5_sum_6
def ck_X5_one_7 : AK := (24, [.inr (.inl [35]), .inl (.ofNat 1, .ofNat 8)], [18, 19, 35, 47, 48, 52, 53, 57, 58, 62, 63], false, [([(.ofNat 1, .ofNat 8)], .inl (.ofNat 0, .ofNat 0), []), ([(.ofNat 1, .ofNat 8)], .inl (.ofNat 1, .ofNat 1), [])], [])
def cg_X5_one_7 : List (Nat × AK) := [(127, ck_X8_emit_5), (117, ck_X5_number_0), (146, ck_X5_name_0), (78, ck_X5_isWord_0), (75, ck_X5_fail_0), (52, ck_X5_advance_0), (149, ck_X5_part_6), (137, ck_X5_one_6), (104, ck_X5_sum_6), (94, ck_X5_sign_0)]
def ca_X5_one_7 : List (Nat × AA) := []
set_option maxRecDepth 100000 in
theorem cc_X5_one_7 : aChk QPl CF ck_X5_one_7 cg_X5_one_7 xxX5 mX5_one tX5_one ca_X5_one_7 [] 1 = true := by decide +kernel
theorem cx_X5_one_7 : ctsO QQ CF xxX5 cg_X5_one_7 := ctsO_cons rfl ct_X8_emit_5 (ctsO_cons rfl ct_X5_number_0 (ctsO_cons rfl ct_X5_name_0 (ctsO_cons rfl ct_X5_isWord_0 (ctsO_cons rfl ct_X5_fail_0 (ctsO_cons rfl ct_X5_advance_0 (ctsO_cons rfl ct_X5_part_6 (ctsO_cons rfl ct_X5_one_6 (ctsO_cons rfl ct_X5_sum_6 (ctsO_cons rfl ct_X5_sign_0 (ctsO_nil))))))))))
theorem ct_X5_one_7 : ctrO QQ CF ck_X5_one_7 mX5_one := chk_ok (Q := QQ) (QP := QPl) (C := CF) (c := ck_X5_one_7) (G := cg_X5_one_7) (X := xxX5) (M := mX5_one) (t := tX5_one) (anns := ca_X5_one_7) 1 xx5 pl5 rfl kX5_one qq_ok cx_X5_one_7 cc_X5_one_7
def ck_X5_part_7 : AK := (25, [.inr (.inl [35]), .inl (.ofNat 1, .ofNat 8)], [18, 19, 35, 47, 48, 52, 53, 57, 58, 62, 63], false, [([(.ofNat 1, .ofNat 8)], .inl (.ofNat 0, .ofNat 0), []), ([(.ofNat 1, .ofNat 8)], .inl (.ofNat 1, .ofNat 1), [])], [])
def cg_X5_part_7 : List (Nat × AK) := [(117, ck_X5_number_0), (121, ck_X5_word_0), (137, ck_X5_one_7), (127, ck_X8_emit_5)]
def ca_X5_part_7 : List (Nat × AA) := []
set_option maxRecDepth 100000 in
theorem cc_X5_part_7 : aChk QPl CF ck_X5_part_7 cg_X5_part_7 xxX5 mX5_part tX5_part ca_X5_part_7 [] 1 = true := by decide +kernel
theorem cx_X5_part_7 : ctsO QQ CF xxX5 cg_X5_part_7 := ctsO_cons rfl ct_X5_number_0 (ctsO_cons rfl ct_X5_word_0 (ctsO_cons rfl ct_X5_one_7 (ctsO_cons rfl ct_X8_emit_5 (ctsO_nil))))
theorem ct_X5_part_7 : ctrO QQ CF ck_X5_part_7 mX5_part := chk_ok (Q := QQ) (QP := QPl) (C := CF) (c := ck_X5_part_7) (G := cg_X5_part_7) (X := xxX5) (M := mX5_part) (t := tX5_part) (anns := ca_X5_part_7) 1 xx5 pl5 rfl kX5_part qq_ok cx_X5_part_7 cc_X5_part_7
def ck_X5_product_7 : AK := (25, [.inr (.inl [35]), .inl (.ofNat 1, .ofNat 8)], [18, 19, 35, 47, 48, 52, 53, 57, 58, 62, 63], false, [([(.ofNat 1, .ofNat 8)], .inl (.ofNat 1, .ofNat 1), []), ([(.ofNat 1, .ofNat 8)], .inl (.ofNat 0, .ofNat 0), []), ([(.ofNat 1, .ofNat 8)], .inl (.ofNat 0, .ofNat 1), [])], [])
def cg_X5_product_7 : List (Nat × AK) := [(137, ck_X5_one_7), (52, ck_X5_advance_0), (127, ck_X8_emit_5)]
def ca_X5_product_7 : List (Nat × AA) := [(8, [(.ofNat 0, .ofNat 0), (.ofNat 1, .ofNat 8), (.ofNat 0, .ofNat 1), (.ofNat 0, .ofNat 300)], [.inr (.inl [35]), .inl (1, .ofNat 0), .inl (2, .ofNat 0), .inl (3, .ofNat 0), .inr (.inr 0)], [], [], [(0, 2, 0), (0, 3, 0)], (.ofNat 300, [.ofNat 0, .ofNat 0, .ofNat 0, .negSucc 0]))]
set_option maxRecDepth 100000 in
theorem cc_X5_product_7 : aChk QPl CF ck_X5_product_7 cg_X5_product_7 xxX5 mX5_product tX5_product ca_X5_product_7 [] 301 = true := by decide +kernel
theorem cx_X5_product_7 : ctsO QQ CF xxX5 cg_X5_product_7 := ctsO_cons rfl ct_X5_one_7 (ctsO_cons rfl ct_X5_advance_0 (ctsO_cons rfl ct_X8_emit_5 (ctsO_nil)))
theorem ct_X5_product_7 : ctrO QQ CF ck_X5_product_7 mX5_product := chk_ok (Q := QQ) (QP := QPl) (C := CF) (c := ck_X5_product_7) (G := cg_X5_product_7) (X := xxX5) (M := mX5_product) (t := tX5_product) (anns := ca_X5_product_7) 301 xx5 pl5 rfl kX5_product qq_ok cx_X5_product_7 cc_X5_product_7
def ck_X5_sum_7 : AK := (26, [.inr (.inl [35]), .inl (.ofNat 1, .ofNat 8)], [18, 19, 35, 47, 48, 52, 53, 57, 58, 62, 63], false, [([(.ofNat 1, .ofNat 8)], .inl (.ofNat 1, .ofNat 1), []), ([(.ofNat 1, .ofNat 8)], .inl (.ofNat 0, .ofNat 0), []), ([(.ofNat 1, .ofNat 8)], .inl (.ofNat 0, .ofNat 1), [])], [])
def cg_X5_sum_7 : List (Nat × AK) := [(134, ck_X5_product_7), (52, ck_X5_advance_0), (127, ck_X8_emit_5)]
def ca_X5_sum_7 : List (Nat × AA) := [(8, [(.ofNat 0, .ofNat 0), (.ofNat 1, .ofNat 8), (.ofNat 0, .ofNat 1), (.ofNat 0, .ofNat 300)], [.inr (.inl [35]), .inl (1, .ofNat 0), .inl (2, .ofNat 0), .inl (3, .ofNat 0), .inr (.inr 0)], [], [], [(0, 2, 0), (0, 3, 0)], (.ofNat 300, [.ofNat 0, .ofNat 0, .ofNat 0, .negSucc 0]))]
set_option maxRecDepth 100000 in
theorem cc_X5_sum_7 : aChk QPl CF ck_X5_sum_7 cg_X5_sum_7 xxX5 mX5_sum tX5_sum ca_X5_sum_7 [] 301 = true := by decide +kernel
theorem cx_X5_sum_7 : ctsO QQ CF xxX5 cg_X5_sum_7 := ctsO_cons rfl ct_X5_product_7 (ctsO_cons rfl ct_X5_advance_0 (ctsO_cons rfl ct_X8_emit_5 (ctsO_nil)))
theorem ct_X5_sum_7 : ctrO QQ CF ck_X5_sum_7 mX5_sum := chk_ok (Q := QQ) (QP := QPl) (C := CF) (c := ck_X5_sum_7) (G := cg_X5_sum_7) (X := xxX5) (M := mX5_sum) (t := tX5_sum) (anns := ca_X5_sum_7) 301 xx5 pl5 rfl kX5_sum qq_ok cx_X5_sum_7 cc_X5_sum_7
def ck_X5_one_8 : AK := (27, [.inr (.inl [35]), .inl (.ofNat 0, .ofNat 8)], [18, 19, 35, 47, 48, 52, 53, 57, 58, 62, 63], false, [([(.ofNat 0, .ofNat 8)], .inl (.ofNat 0, .ofNat 0), []), ([(.ofNat 0, .ofNat 8)], .inl (.ofNat 1, .ofNat 1), [])], [])
def cg_X5_one_8 : List (Nat × AK) := [(127, ck_X8_emit_5), (117, ck_X5_number_0), (146, ck_X5_name_0), (78, ck_X5_isWord_0), (75, ck_X5_fail_0), (52, ck_X5_advance_0), (149, ck_X5_part_7), (137, ck_X5_one_7), (104, ck_X5_sum_7), (94, ck_X5_sign_0)]
def ca_X5_one_8 : List (Nat × AA) := []
set_option maxRecDepth 100000 in
theorem cc_X5_one_8 : aChk QPl CF ck_X5_one_8 cg_X5_one_8 xxX5 mX5_one tX5_one ca_X5_one_8 [] 1 = true := by decide +kernel
theorem cx_X5_one_8 : ctsO QQ CF xxX5 cg_X5_one_8 := ctsO_cons rfl ct_X8_emit_5 (ctsO_cons rfl ct_X5_number_0 (ctsO_cons rfl ct_X5_name_0 (ctsO_cons rfl ct_X5_isWord_0 (ctsO_cons rfl ct_X5_fail_0 (ctsO_cons rfl ct_X5_advance_0 (ctsO_cons rfl ct_X5_part_7 (ctsO_cons rfl ct_X5_one_7 (ctsO_cons rfl ct_X5_sum_7 (ctsO_cons rfl ct_X5_sign_0 (ctsO_nil))))))))))
theorem ct_X5_one_8 : ctrO QQ CF ck_X5_one_8 mX5_one := chk_ok (Q := QQ) (QP := QPl) (C := CF) (c := ck_X5_one_8) (G := cg_X5_one_8) (X := xxX5) (M := mX5_one) (t := tX5_one) (anns := ca_X5_one_8) 1 xx5 pl5 rfl kX5_one qq_ok cx_X5_one_8 cc_X5_one_8
def ck_X5_product_8 : AK := (28, [.inr (.inl [35]), .inl (.ofNat 0, .ofNat 8)], [18, 19, 35, 47, 48, 52, 53, 57, 58, 62, 63], false, [([(.ofNat 0, .ofNat 8)], .inl (.ofNat 1, .ofNat 1), []), ([(.ofNat 0, .ofNat 8)], .inl (.ofNat 0, .ofNat 0), []), ([(.ofNat 0, .ofNat 8)], .inl (.ofNat 0, .ofNat 1), [])], [])
def cg_X5_product_8 : List (Nat × AK) := [(137, ck_X5_one_8), (52, ck_X5_advance_0), (127, ck_X8_emit_5)]
def ca_X5_product_8 : List (Nat × AA) := [(8, [(.ofNat 0, .ofNat 0), (.ofNat 0, .ofNat 8), (.ofNat 0, .ofNat 1), (.ofNat 0, .ofNat 300)], [.inr (.inl [35]), .inl (1, .ofNat 0), .inl (2, .ofNat 0), .inl (3, .ofNat 0), .inr (.inr 0)], [], [], [(0, 2, 0), (0, 3, 0)], (.ofNat 300, [.ofNat 0, .ofNat 0, .ofNat 0, .negSucc 0]))]
set_option maxRecDepth 100000 in
theorem cc_X5_product_8 : aChk QPl CF ck_X5_product_8 cg_X5_product_8 xxX5 mX5_product tX5_product ca_X5_product_8 [] 301 = true := by decide +kernel
theorem cx_X5_product_8 : ctsO QQ CF xxX5 cg_X5_product_8 := ctsO_cons rfl ct_X5_one_8 (ctsO_cons rfl ct_X5_advance_0 (ctsO_cons rfl ct_X8_emit_5 (ctsO_nil)))
theorem ct_X5_product_8 : ctrO QQ CF ck_X5_product_8 mX5_product := chk_ok (Q := QQ) (QP := QPl) (C := CF) (c := ck_X5_product_8) (G := cg_X5_product_8) (X := xxX5) (M := mX5_product) (t := tX5_product) (anns := ca_X5_product_8) 301 xx5 pl5 rfl kX5_product qq_ok cx_X5_product_8 cc_X5_product_8
def ck_X5_sum_8 : AK := (29, [.inr (.inl [35]), .inl (.ofNat 0, .ofNat 8)], [18, 19, 35, 47, 48, 52, 53, 57, 58, 62, 63], false, [([(.ofNat 0, .ofNat 8)], .inl (.ofNat 1, .ofNat 1), []), ([(.ofNat 0, .ofNat 8)], .inl (.ofNat 0, .ofNat 0), []), ([(.ofNat 0, .ofNat 8)], .inl (.ofNat 0, .ofNat 1), [])], [])
def cg_X5_sum_8 : List (Nat × AK) := [(134, ck_X5_product_8), (52, ck_X5_advance_0), (127, ck_X8_emit_5)]
def ca_X5_sum_8 : List (Nat × AA) := [(8, [(.ofNat 0, .ofNat 0), (.ofNat 0, .ofNat 8), (.ofNat 0, .ofNat 1), (.ofNat 0, .ofNat 300)], [.inr (.inl [35]), .inl (1, .ofNat 0), .inl (2, .ofNat 0), .inl (3, .ofNat 0), .inr (.inr 0)], [], [], [(0, 2, 0), (0, 3, 0)], (.ofNat 300, [.ofNat 0, .ofNat 0, .ofNat 0, .negSucc 0]))]
set_option maxRecDepth 100000 in
theorem cc_X5_sum_8 : aChk QPl CF ck_X5_sum_8 cg_X5_sum_8 xxX5 mX5_sum tX5_sum ca_X5_sum_8 [] 301 = true := by decide +kernel
theorem cx_X5_sum_8 : ctsO QQ CF xxX5 cg_X5_sum_8 := ctsO_cons rfl ct_X5_product_8 (ctsO_cons rfl ct_X5_advance_0 (ctsO_cons rfl ct_X8_emit_5 (ctsO_nil)))
theorem ct_X5_sum_8 : ctrO QQ CF ck_X5_sum_8 mX5_sum := chk_ok (Q := QQ) (QP := QPl) (C := CF) (c := ck_X5_sum_8) (G := cg_X5_sum_8) (X := xxX5) (M := mX5_sum) (t := tX5_sum) (anns := ca_X5_sum_8) 301 xx5 pl5 rfl kX5_sum qq_ok cx_X5_sum_8 cc_X5_sum_8
def ck_X5_comparisonOf_0 : AK := (1, [.inl fr], [], false, [([(.ofNat 35, .ofNat 257)], .inl (.ofNat 9, .ofNat 14), []), ([fr], .inl (.negSucc 0, .negSucc 0), [])], [])
def cg_X5_comparisonOf_0 : List (Nat × AK) := []
def ca_X5_comparisonOf_0 : List (Nat × AA) := []
set_option maxRecDepth 100000 in
theorem cc_X5_comparisonOf_0 : aChk QPl CF ck_X5_comparisonOf_0 cg_X5_comparisonOf_0 xxX5 mX5_comparisonOf tX5_comparisonOf ca_X5_comparisonOf_0 [] 1 = true := by decide +kernel
theorem cx_X5_comparisonOf_0 : ctsO QQ CF xxX5 cg_X5_comparisonOf_0 := ctsO_nil
theorem ct_X5_comparisonOf_0 : ctrO QQ CF ck_X5_comparisonOf_0 mX5_comparisonOf := chk_ok (Q := QQ) (QP := QPl) (C := CF) (c := ck_X5_comparisonOf_0) (G := cg_X5_comparisonOf_0) (X := xxX5) (M := mX5_comparisonOf) (t := tX5_comparisonOf) (anns := ca_X5_comparisonOf_0) 1 xx5 pl5 rfl kX5_comparisonOf qq_ok cx_X5_comparisonOf_0 cc_X5_comparisonOf_0
def ck_X5_ask_0 : AK := (30, [.inr (.inl [35])], [18, 19, 35, 47, 48, 52, 53, 57, 58, 62, 63], false, [([], .inl (.ofNat 0, .ofNat 0), []), ([], .inl (.ofNat 0, .ofNat 1), [])], [])
def cg_X5_ask_0 : List (Nat × AK) := [(78, ck_X5_isWord_0), (52, ck_X5_advance_0), (75, ck_X5_fail_0), (104, ck_X5_sum_8), (130, ck_X5_comparisonOf_0), (127, ck_X8_emit_5)]
def ca_X5_ask_0 : List (Nat × AA) := [(2, [(.ofNat 0, .ofNat 0), (.ofNat 0, .ofNat 8)], [.inr (.inl [35]), .inl (1, .ofNat 0), .inr (.inr 0), .inr (.inr 0), .inr (.inr 0)], [], [], [(0, 1, 0)], (.ofNat 17, [.ofNat 0, .negSucc 0])), (93, [(.ofNat 0, .ofNat 0), (.ofNat 0, .ofNat 8), (.ofNat 9, .ofNat 14), (.ofNat 0, .ofNat 1), (.ofNat 0, .ofNat 8)], [.inr (.inl [35]), .inl (1, .ofNat 0), .inl (2, .ofNat 0), .inl (3, .ofNat 0), .inl (4, .ofNat 0)], [], [], [(0, 1, 0), (0, 2, 0), (0, 3, 0), (0, 4, 0)], (.ofNat 8, [.ofNat 0, .ofNat 0, .ofNat 0, .ofNat 0, .negSucc 0]))]
set_option maxRecDepth 100000 in
theorem cc_X5_ask_0 : aChk QPl CF ck_X5_ask_0 cg_X5_ask_0 xxX5 mX5_ask tX5_ask ca_X5_ask_0 [] 18 = true := by decide +kernel
theorem cx_X5_ask_0 : ctsO QQ CF xxX5 cg_X5_ask_0 := ctsO_cons rfl ct_X5_isWord_0 (ctsO_cons rfl ct_X5_advance_0 (ctsO_cons rfl ct_X5_fail_0 (ctsO_cons rfl ct_X5_sum_8 (ctsO_cons rfl ct_X5_comparisonOf_0 (ctsO_cons rfl ct_X8_emit_5 (ctsO_nil))))))
theorem ct_X5_ask_0 : ctrO QQ CF ck_X5_ask_0 mX5_ask := chk_ok (Q := QQ) (QP := QPl) (C := CF) (c := ck_X5_ask_0) (G := cg_X5_ask_0) (X := xxX5) (M := mX5_ask) (t := tX5_ask) (anns := ca_X5_ask_0) 18 xx5 pl5 rfl kX5_ask qq_ok cx_X5_ask_0 cc_X5_ask_0
def ck_X5_either_0 : AK := (31, [.inr (.inl [35])], [18, 19, 35, 47, 48, 52, 53, 57, 58, 62, 63], false, [([], .inl (.ofNat 1, .ofNat 1), []), ([], .inl (.ofNat 0, .ofNat 0), []), ([], .inl (.ofNat 0, .ofNat 1), [])], [])
def cg_X5_either_0 : List (Nat × AK) := [(124, ck_X5_ask_0), (78, ck_X5_isWord_0), (52, ck_X5_advance_0), (127, ck_X8_emit_5)]
def ca_X5_either_0 : List (Nat × AA) := [(9, [(.ofNat 0, .ofNat 0), (.ofNat 0, .ofNat 1), (.ofNat 0, .ofNat 1), (.ofNat 0, .ofNat 300)], [.inr (.inl [35]), .inl (1, .ofNat 0), .inl (2, .ofNat 0), .inl (3, .ofNat 0), .inr (.inr 0)], [], [], [(0, 1, 0), (0, 2, 0), (0, 3, 0)], (.ofNat 300, [.ofNat 0, .ofNat 0, .ofNat 0, .negSucc 0]))]
set_option maxRecDepth 100000 in
theorem cc_X5_either_0 : aChk QPl CF ck_X5_either_0 cg_X5_either_0 xxX5 mX5_either tX5_either ca_X5_either_0 [] 301 = true := by decide +kernel
theorem cx_X5_either_0 : ctsO QQ CF xxX5 cg_X5_either_0 := ctsO_cons rfl ct_X5_ask_0 (ctsO_cons rfl ct_X5_isWord_0 (ctsO_cons rfl ct_X5_advance_0 (ctsO_cons rfl ct_X8_emit_5 (ctsO_nil))))
theorem ct_X5_either_0 : ctrO QQ CF ck_X5_either_0 mX5_either := chk_ok (Q := QQ) (QP := QPl) (C := CF) (c := ck_X5_either_0) (G := cg_X5_either_0) (X := xxX5) (M := mX5_either) (t := tX5_either) (anns := ca_X5_either_0) 301 xx5 pl5 rfl kX5_either qq_ok cx_X5_either_0 cc_X5_either_0
def ck_X8_closeLaw_0 : AK := (1, [.inr (.inl [18]), .inl fr], [21], false, [([fr], .inr (.inr 9), [])], [])
def cg_X8_closeLaw_0 : List (Nat × AK) := []
def ca_X8_closeLaw_0 : List (Nat × AA) := []
set_option maxRecDepth 100000 in
theorem cc_X8_closeLaw_0 : aChk QPl CF ck_X8_closeLaw_0 cg_X8_closeLaw_0 xxX8 mX8_closeLaw tX8_closeLaw ca_X8_closeLaw_0 [] 1 = true := by decide +kernel
theorem cx_X8_closeLaw_0 : ctsO QQ CF xxX8 cg_X8_closeLaw_0 := ctsO_nil
theorem ct_X8_closeLaw_0 : ctrO QQ CF ck_X8_closeLaw_0 mX8_closeLaw := chk_ok (Q := QQ) (QP := QPl) (C := CF) (c := ck_X8_closeLaw_0) (G := cg_X8_closeLaw_0) (X := xxX8) (M := mX8_closeLaw) (t := tX8_closeLaw) (anns := ca_X8_closeLaw_0) 1 xx8 pl8 rfl kX8_closeLaw qq_ok cx_X8_closeLaw_0 cc_X8_closeLaw_0
def ck_X8_closeLaw_1 : AK := (1, [.inr (.inl [47]), .inl fr], [50], false, [([fr], .inr (.inr 9), [])], [])
def cg_X8_closeLaw_1 : List (Nat × AK) := []
def ca_X8_closeLaw_1 : List (Nat × AA) := []
set_option maxRecDepth 100000 in
theorem cc_X8_closeLaw_1 : aChk QPl CF ck_X8_closeLaw_1 cg_X8_closeLaw_1 xxX8 mX8_closeLaw tX8_closeLaw ca_X8_closeLaw_1 [] 1 = true := by decide +kernel
theorem cx_X8_closeLaw_1 : ctsO QQ CF xxX8 cg_X8_closeLaw_1 := ctsO_nil
theorem ct_X8_closeLaw_1 : ctrO QQ CF ck_X8_closeLaw_1 mX8_closeLaw := chk_ok (Q := QQ) (QP := QPl) (C := CF) (c := ck_X8_closeLaw_1) (G := cg_X8_closeLaw_1) (X := xxX8) (M := mX8_closeLaw) (t := tX8_closeLaw) (anns := ca_X8_closeLaw_1) 1 xx8 pl8 rfl kX8_closeLaw qq_ok cx_X8_closeLaw_1 cc_X8_closeLaw_1
def ck_X8_closeLaw_2 : AK := (1, [.inr (.inl [52]), .inl fr], [55], false, [([fr], .inr (.inr 9), [])], [])
def cg_X8_closeLaw_2 : List (Nat × AK) := []
def ca_X8_closeLaw_2 : List (Nat × AA) := []
set_option maxRecDepth 100000 in
theorem cc_X8_closeLaw_2 : aChk QPl CF ck_X8_closeLaw_2 cg_X8_closeLaw_2 xxX8 mX8_closeLaw tX8_closeLaw ca_X8_closeLaw_2 [] 1 = true := by decide +kernel
theorem cx_X8_closeLaw_2 : ctsO QQ CF xxX8 cg_X8_closeLaw_2 := ctsO_nil
theorem ct_X8_closeLaw_2 : ctrO QQ CF ck_X8_closeLaw_2 mX8_closeLaw := chk_ok (Q := QQ) (QP := QPl) (C := CF) (c := ck_X8_closeLaw_2) (G := cg_X8_closeLaw_2) (X := xxX8) (M := mX8_closeLaw) (t := tX8_closeLaw) (anns := ca_X8_closeLaw_2) 1 xx8 pl8 rfl kX8_closeLaw qq_ok cx_X8_closeLaw_2 cc_X8_closeLaw_2
def ck_X8_closeLaw_3 : AK := (1, [.inr (.inl [57]), .inl fr], [60], false, [([fr], .inr (.inr 9), [])], [])
def cg_X8_closeLaw_3 : List (Nat × AK) := []
def ca_X8_closeLaw_3 : List (Nat × AA) := []
set_option maxRecDepth 100000 in
theorem cc_X8_closeLaw_3 : aChk QPl CF ck_X8_closeLaw_3 cg_X8_closeLaw_3 xxX8 mX8_closeLaw tX8_closeLaw ca_X8_closeLaw_3 [] 1 = true := by decide +kernel
theorem cx_X8_closeLaw_3 : ctsO QQ CF xxX8 cg_X8_closeLaw_3 := ctsO_nil
theorem ct_X8_closeLaw_3 : ctrO QQ CF ck_X8_closeLaw_3 mX8_closeLaw := chk_ok (Q := QQ) (QP := QPl) (C := CF) (c := ck_X8_closeLaw_3) (G := cg_X8_closeLaw_3) (X := xxX8) (M := mX8_closeLaw) (t := tX8_closeLaw) (anns := ca_X8_closeLaw_3) 1 xx8 pl8 rfl kX8_closeLaw qq_ok cx_X8_closeLaw_3 cc_X8_closeLaw_3
def ck_X8_closeLaw_4 : AK := (1, [.inr (.inl [62]), .inl fr], [65], false, [([fr], .inr (.inr 9), [])], [])
def cg_X8_closeLaw_4 : List (Nat × AK) := []
def ca_X8_closeLaw_4 : List (Nat × AA) := []
set_option maxRecDepth 100000 in
theorem cc_X8_closeLaw_4 : aChk QPl CF ck_X8_closeLaw_4 cg_X8_closeLaw_4 xxX8 mX8_closeLaw tX8_closeLaw ca_X8_closeLaw_4 [] 1 = true := by decide +kernel
theorem cx_X8_closeLaw_4 : ctsO QQ CF xxX8 cg_X8_closeLaw_4 := ctsO_nil
theorem ct_X8_closeLaw_4 : ctrO QQ CF ck_X8_closeLaw_4 mX8_closeLaw := chk_ok (Q := QQ) (QP := QPl) (C := CF) (c := ck_X8_closeLaw_4) (G := cg_X8_closeLaw_4) (X := xxX8) (M := mX8_closeLaw) (t := tX8_closeLaw) (anns := ca_X8_closeLaw_4) 1 xx8 pl8 rfl kX8_closeLaw qq_ok cx_X8_closeLaw_4 cc_X8_closeLaw_4
def ck_X8_closeLaw_5 : AK := (1, [.inr (.inl [18, 47, 52, 57, 62]), .inl fr], [21, 50, 55, 60, 65], false, [([fr], .inr (.inr 9), [])], [])
theorem ct_X8_closeLaw_5 : ctrO QQ CF ck_X8_closeLaw_5 mX8_closeLaw := by
  refine ctr_uni (fun p hp => ?_)
  simp only [List.mem_cons, List.not_mem_nil, or_false] at hp
  rcases hp with rfl | rfl | rfl | rfl | rfl
  · exact ⟨_, _, ct_X8_closeLaw_0, by decide, by decide⟩
  · exact ⟨_, _, ct_X8_closeLaw_1, by decide, by decide⟩
  · exact ⟨_, _, ct_X8_closeLaw_2, by decide, by decide⟩
  · exact ⟨_, _, ct_X8_closeLaw_3, by decide, by decide⟩
  · exact ⟨_, _, ct_X8_closeLaw_4, by decide, by decide⟩
def ck_X5_clause_0 : AK := (32, [.inr (.inl [35]), .inl fr], [18, 19, 20, 21, 22, 35, 47, 48, 49, 50, 51, 52, 53, 54, 55, 56, 57, 58, 59, 60, 61, 62, 63, 64, 65, 66], false, [([fr], .inl (.ofNat 0, .ofNat 0), []), ([(.negSucc 2147483647, .ofNat 23)], .inl (.ofNat 1, .ofNat 1), [])], [])
def cg_X5_clause_0 : List (Nat × AK) := [(75, ck_X5_fail_0), (81, ck_X8_hasLaw_0), (84, ck_X8_addClause_5), (52, ck_X5_advance_0), (91, ck_X5_deed_0), (94, ck_X5_sign_0), (97, ck_X8_openLaw_5), (100, ck_X5_either_0), (107, ck_X8_closeLaw_5), (104, ck_X5_sum_8)]
def ca_X5_clause_0 : List (Nat × AA) := []
set_option maxRecDepth 100000 in
theorem cc_X5_clause_0 : aChk QPl CF ck_X5_clause_0 cg_X5_clause_0 xxX5 mX5_clause tX5_clause ca_X5_clause_0 [] 1 = true := by decide +kernel
theorem cx_X5_clause_0 : ctsO QQ CF xxX5 cg_X5_clause_0 := ctsO_cons rfl ct_X5_fail_0 (ctsO_cons rfl ct_X8_hasLaw_0 (ctsO_cons rfl ct_X8_addClause_5 (ctsO_cons rfl ct_X5_advance_0 (ctsO_cons rfl ct_X5_deed_0 (ctsO_cons rfl ct_X5_sign_0 (ctsO_cons rfl ct_X8_openLaw_5 (ctsO_cons rfl ct_X5_either_0 (ctsO_cons rfl ct_X8_closeLaw_5 (ctsO_cons rfl ct_X5_sum_8 (ctsO_nil))))))))))
theorem ct_X5_clause_0 : ctrO QQ CF ck_X5_clause_0 mX5_clause := chk_ok (Q := QQ) (QP := QPl) (C := CF) (c := ck_X5_clause_0) (G := cg_X5_clause_0) (X := xxX5) (M := mX5_clause) (t := tX5_clause) (anns := ca_X5_clause_0) 1 xx5 pl5 rfl kX5_clause qq_ok cx_X5_clause_0 cc_X5_clause_0
def ck_X5_read_0 : AK := (33, [.inr (.inl [35]), .inr (.inl [18, 47, 52, 57, 62])], [18, 19, 20, 21, 22, 30, 32, 33, 34, 35, 47, 48, 49, 50, 51, 52, 53, 54, 55, 56, 57, 58, 59, 60, 61, 62, 63, 64, 65, 66], true, [([], .inl (.ofNat 1, .ofNat 1), []), ([], .inl (.ofNat 0, .ofNat 0), []), ([], .inl (.ofNat 0, .ofNat 1), [])], [])
def cg_X5_read_0 : List (Nat × AK) := [(44, ck_X8_clear_5), (49, ck_X7_split_0), (52, ck_X5_advance_0), (55, ck_X5_clause_0)]
def ca_X5_read_0 : List (Nat × AA) := [(47, [(.ofNat 0, .ofNat 0), (.ofNat 0, .ofNat 1), (.ofNat 0, .ofNat 30)], [.inr (.inl [35]), .inr (.inl [18, 47, 52, 57, 62]), .inl (1, .ofNat 0), .inl (2, .ofNat 0)], [], [], [(0, 2, 0), (0, 3, 0)], (.ofNat 30, [.ofNat 0, .ofNat 0, .negSucc 0]))]
set_option maxRecDepth 100000 in
theorem cc_X5_read_0 : aChk QPl CF ck_X5_read_0 cg_X5_read_0 xxX5 mX5_read tX5_read ca_X5_read_0 [] 31 = true := by decide +kernel
theorem cx_X5_read_0 : ctsO QQ CF xxX5 cg_X5_read_0 := ctsO_cons rfl ct_X8_clear_5 (ctsO_cons rfl ct_X7_split_0 (ctsO_cons rfl ct_X5_advance_0 (ctsO_cons rfl ct_X5_clause_0 (ctsO_nil))))
theorem ct_X5_read_0 : ctrO QQ CF ck_X5_read_0 mX5_read := chk_ok (Q := QQ) (QP := QPl) (C := CF) (c := ck_X5_read_0) (G := cg_X5_read_0) (X := xxX5) (M := mX5_read) (t := tX5_read) (anns := ca_X5_read_0) 31 xx5 pl5 rfl kX5_read qq_ok cx_X5_read_0 cc_X5_read_0
def ck_X11_text_0 : AK := (34, [.inr (.inl [0])], [0, 18, 19, 20, 21, 22, 30, 32, 33, 34, 35, 47, 48, 49, 50, 51, 52, 53, 54, 55, 56, 57, 58, 59, 60, 61, 62, 63, 64, 65, 66], true, [([], .inl (.negSucc 0, .negSucc 0), []), ([], .inl (.ofNat 0, .ofNat 3), [])], [])
def cg_X11_text_0 : List (Nat × AK) := [(202, ck_X11_textAt_0), (206, ck_X5_read_0)]
def ca_X11_text_0 : List (Nat × AA) := []
set_option maxRecDepth 100000 in
theorem cc_X11_text_0 : aChk QPl CF ck_X11_text_0 cg_X11_text_0 xxX11 mX11_text tX11_text ca_X11_text_0 [] 1 = true := by decide +kernel
theorem cx_X11_text_0 : ctsO QQ CF xxX11 cg_X11_text_0 := ctsO_cons rfl ct_X11_textAt_0 (ctsO_cons rfl ct_X5_read_0 (ctsO_nil))
theorem ct_X11_text_0 : ctrO QQ CF ck_X11_text_0 mX11_text := chk_ok (Q := QQ) (QP := QPl) (C := CF) (c := ck_X11_text_0) (G := cg_X11_text_0) (X := xxX11) (M := mX11_text) (t := tX11_text) (anns := ca_X11_text_0) 1 xx11 pl11 rfl kX11_text qq_ok cx_X11_text_0 cc_X11_text_0
def ck_X11_fault_0 : AK := (1, [.inr (.inl [0]), .inl fr], [], false, [([fr], .inl (.negSucc 0, .negSucc 0), []), ([(.ofNat 0, .ofNat 1)], .inl fr, [])], [])
def cg_X11_fault_0 : List (Nat × AK) := []
def ca_X11_fault_0 : List (Nat × AA) := []
set_option maxRecDepth 100000 in
theorem cc_X11_fault_0 : aChk QPl CF ck_X11_fault_0 cg_X11_fault_0 xxX11 mX11_fault tX11_fault ca_X11_fault_0 [] 1 = true := by decide +kernel
theorem cx_X11_fault_0 : ctsO QQ CF xxX11 cg_X11_fault_0 := ctsO_nil
theorem ct_X11_fault_0 : ctrO QQ CF ck_X11_fault_0 mX11_fault := chk_ok (Q := QQ) (QP := QPl) (C := CF) (c := ck_X11_fault_0) (G := cg_X11_fault_0) (X := xxX11) (M := mX11_fault) (t := tX11_fault) (anns := ca_X11_fault_0) 1 xx11 pl11 rfl kX11_fault qq_ok cx_X11_fault_0 cc_X11_fault_0
def ck_X11_within_8 : AK := (1, [.inl fr, .inl (.negSucc 0, .negSucc 0), .inl (.negSucc 0, .ofNat 3)], [], false, [([(.negSucc 0, .ofNat 3), (.negSucc 0, .negSucc 0), (.negSucc 0, .ofNat 3)], .inl (.ofNat 1, .ofNat 1), []), ([fr, (.negSucc 0, .negSucc 0), (.negSucc 0, .ofNat 3)], .inl (.ofNat 0, .ofNat 0), [])], [])
def cg_X11_within_8 : List (Nat × AK) := []
def ca_X11_within_8 : List (Nat × AA) := []
set_option maxRecDepth 100000 in
theorem cc_X11_within_8 : aChk QPl CF ck_X11_within_8 cg_X11_within_8 xxX11 mX11_within tX11_within ca_X11_within_8 [] 1 = true := by decide +kernel
theorem cx_X11_within_8 : ctsO QQ CF xxX11 cg_X11_within_8 := ctsO_nil
theorem ct_X11_within_8 : ctrO QQ CF ck_X11_within_8 mX11_within := chk_ok (Q := QQ) (QP := QPl) (C := CF) (c := ck_X11_within_8) (G := cg_X11_within_8) (X := xxX11) (M := mX11_within) (t := tX11_within) (anns := ca_X11_within_8) 1 xx11 pl11 rfl kX11_within qq_ok cx_X11_within_8 cc_X11_within_8
def ck_X11_setRule_0 : AK := (2, [.inr (.inl [0]), .inl (.negSucc 0, .ofNat 3)], [0], true, [([(.negSucc 0, .ofNat 3)], .inr (.inr 9), [])], [])
def cg_X11_setRule_0 : List (Nat × AK) := [(202, ck_X11_textAt_0)]
def ca_X11_setRule_0 : List (Nat × AA) := []
set_option maxRecDepth 100000 in
theorem cc_X11_setRule_0 : aChk QPl CF ck_X11_setRule_0 cg_X11_setRule_0 xxX11 mX11_setRule tX11_setRule ca_X11_setRule_0 [] 1 = true := by decide +kernel
theorem cx_X11_setRule_0 : ctsO QQ CF xxX11 cg_X11_setRule_0 := ctsO_cons rfl ct_X11_textAt_0 (ctsO_nil)
theorem ct_X11_setRule_0 : ctrO QQ CF ck_X11_setRule_0 mX11_setRule := chk_ok (Q := QQ) (QP := QPl) (C := CF) (c := ck_X11_setRule_0) (G := cg_X11_setRule_0) (X := xxX11) (M := mX11_setRule) (t := tX11_setRule) (anns := ca_X11_setRule_0) 1 xx11 pl11 rfl kX11_setRule qq_ok cx_X11_setRule_0 cc_X11_setRule_0
def ck_X11_by_0 : AK := (3, [.inr (.inl [0]), .inl fr], [0], true, [([(.negSucc 0, .ofNat 3)], .inl (.ofNat 1, .ofNat 1), []), ([fr], .inl (.ofNat 0, .ofNat 0), [])], [])
def cg_X11_by_0 : List (Nat × AK) := [(120, ck_X11_within_8), (220, ck_X11_setRule_0)]
def ca_X11_by_0 : List (Nat × AA) := []
set_option maxRecDepth 100000 in
theorem cc_X11_by_0 : aChk QPl CF ck_X11_by_0 cg_X11_by_0 xxX11 mX11_by tX11_by ca_X11_by_0 [] 1 = true := by decide +kernel
theorem cx_X11_by_0 : ctsO QQ CF xxX11 cg_X11_by_0 := ctsO_cons rfl ct_X11_within_8 (ctsO_cons rfl ct_X11_setRule_0 (ctsO_nil))
theorem ct_X11_by_0 : ctrO QQ CF ck_X11_by_0 mX11_by := chk_ok (Q := QQ) (QP := QPl) (C := CF) (c := ck_X11_by_0) (G := cg_X11_by_0) (X := xxX11) (M := mX11_by) (t := tX11_by) (anns := ca_X11_by_0) 1 xx11 pl11 rfl kX11_by qq_ok cx_X11_by_0 cc_X11_by_0
def ck_X11_within_9 : AK := (1, [.inl fr, .inl (.ofNat 0, .ofNat 0), .inl (.negSucc 0, .ofNat 3)], [], false, [([(.ofNat 0, .ofNat 3), (.ofNat 0, .ofNat 0), (.ofNat 0, .ofNat 3)], .inl (.ofNat 1, .ofNat 1), []), ([fr, (.ofNat 0, .ofNat 0), (.negSucc 0, .ofNat 3)], .inl (.ofNat 0, .ofNat 0), [])], [])
def cg_X11_within_9 : List (Nat × AK) := []
def ca_X11_within_9 : List (Nat × AA) := []
set_option maxRecDepth 100000 in
theorem cc_X11_within_9 : aChk QPl CF ck_X11_within_9 cg_X11_within_9 xxX11 mX11_within tX11_within ca_X11_within_9 [] 1 = true := by decide +kernel
theorem cx_X11_within_9 : ctsO QQ CF xxX11 cg_X11_within_9 := ctsO_nil
theorem ct_X11_within_9 : ctrO QQ CF ck_X11_within_9 mX11_within := chk_ok (Q := QQ) (QP := QPl) (C := CF) (c := ck_X11_within_9) (G := cg_X11_within_9) (X := xxX11) (M := mX11_within) (t := tX11_within) (anns := ca_X11_within_9) 1 xx11 pl11 rfl kX11_within qq_ok cx_X11_within_9 cc_X11_within_9
def ck_X11_perform_0 : AK := (6, [.inr (.inl [0]), .inl fr, .inl fr, .inl fr, .inl fr], [1, 2, 12, 13, 14, 15, 16, 17, 24, 27], false, [([(.ofNat 5, .ofNat 13), fr, fr, fr], .inl (.ofNat 0, .ofNat 0), []), ([fr, fr, fr, fr], .inl (.ofNat 1, .ofNat 1), [])], [])
def cg_X11_perform_0 : List (Nat × AK) := [(236, ck_X11_thing_0), (173, ck_X11_passHours_0), (257, ck_X11_sell_0), (254, ck_X11_move_0), (251, ck_X11_use_0), (248, ck_X11_last_0), (245, ck_X11_cut_0), (242, ck_X11_barn_0), (239, ck_X11_reaper_0)]
def ca_X11_perform_0 : List (Nat × AA) := []
set_option maxRecDepth 100000 in
theorem cc_X11_perform_0 : aChk QPl CF ck_X11_perform_0 cg_X11_perform_0 xxX11 mX11_perform tX11_perform ca_X11_perform_0 [] 1 = true := by decide +kernel
theorem cx_X11_perform_0 : ctsO QQ CF xxX11 cg_X11_perform_0 := ctsO_cons rfl ct_X11_thing_0 (ctsO_cons rfl ct_X11_passHours_0 (ctsO_cons rfl ct_X11_sell_0 (ctsO_cons rfl ct_X11_move_0 (ctsO_cons rfl ct_X11_use_0 (ctsO_cons rfl ct_X11_last_0 (ctsO_cons rfl ct_X11_cut_0 (ctsO_cons rfl ct_X11_barn_0 (ctsO_cons rfl ct_X11_reaper_0 (ctsO_nil)))))))))
theorem ct_X11_perform_0 : ctrO QQ CF ck_X11_perform_0 mX11_perform := chk_ok (Q := QQ) (QP := QPl) (C := CF) (c := ck_X11_perform_0) (G := cg_X11_perform_0) (X := xxX11) (M := mX11_perform) (t := tX11_perform) (anns := ca_X11_perform_0) 1 xx11 pl11 rfl kX11_perform qq_ok cx_X11_perform_0 cc_X11_perform_0
def ck_X11_played_0 : AK := (7, [.inr (.inl [0]), .inl fr], [1, 2, 12, 13, 14, 15, 16, 17, 24, 27], false, [([fr], .inl (.negSucc 1, .negSucc 1), []), ([(.ofNat 0, .ofNat 3)], .inl (.ofNat 0, .ofNat 23), []), ([(.ofNat 0, .ofNat 3)], .inl (.negSucc 0, .negSucc 0), [])], [])
def cg_X11_played_0 : List (Nat × AK) := [(120, ck_X11_within_9), (202, ck_X11_textAt_0), (232, ck_X11_perform_0)]
def ca_X11_played_0 : List (Nat × AA) := [(38, [(.ofNat 0, .ofNat 0), (.ofNat 0, .ofNat 3), (.ofNat 0, .ofNat 24), (.ofNat 0, .ofNat 24), (.ofNat 1, .ofNat 4)], [.inr (.inl [0]), .inl (1, .ofNat 0), .inr (.inl [22, 51, 56, 61, 66]), .inl (2, .ofNat 0), .inl (3, .ofNat 0), .inr (.inr 0), .inr (.inr 0)], [], [(0, 12, 4, .ofNat 0)], [(0, 3, 0), (0, 4, 0), (2, 0, 12)], (.ofNat 24, [.ofNat 0, .ofNat 0, .ofNat 0, .negSucc 0, .ofNat 0]))]
set_option maxRecDepth 100000 in
theorem cc_X11_played_0 : aChk QPl CF ck_X11_played_0 cg_X11_played_0 xxX11 mX11_played tX11_played ca_X11_played_0 [] 25 = true := by decide +kernel
theorem cx_X11_played_0 : ctsO QQ CF xxX11 cg_X11_played_0 := ctsO_cons rfl ct_X11_within_9 (ctsO_cons rfl ct_X11_textAt_0 (ctsO_cons rfl ct_X11_perform_0 (ctsO_nil)))
theorem ct_X11_played_0 : ctrO QQ CF ck_X11_played_0 mX11_played := chk_ok (Q := QQ) (QP := QPl) (C := CF) (c := ck_X11_played_0) (G := cg_X11_played_0) (X := xxX11) (M := mX11_played) (t := tX11_played) (anns := ca_X11_played_0) 25 xx11 pl11 rfl kX11_played qq_ok cx_X11_played_0 cc_X11_played_0
def ck_X6_takeBack_0 : AK := (2, [.inr (.inl [1]), .inr (.inl [27])], [1, 27], false, [([], .inl (.ofNat 1, .ofNat 1), []), ([], .inl (.ofNat 0, .ofNat 0), [])], [])
def cg_X6_takeBack_0 : List (Nat × AK) := [(24, ck_X6_placeOf_0)]
def ca_X6_takeBack_0 : List (Nat × AA) := []
set_option maxRecDepth 100000 in
theorem cc_X6_takeBack_0 : aChk QPl CF ck_X6_takeBack_0 cg_X6_takeBack_0 xxX6 mX6_takeBack tX6_takeBack ca_X6_takeBack_0 [] 1 = true := by decide +kernel
theorem cx_X6_takeBack_0 : ctsO QQ CF xxX6 cg_X6_takeBack_0 := ctsO_cons rfl ct_X6_placeOf_0 (ctsO_nil)
theorem ct_X6_takeBack_0 : ctrO QQ CF ck_X6_takeBack_0 mX6_takeBack := chk_ok (Q := QQ) (QP := QPl) (C := CF) (c := ck_X6_takeBack_0) (G := cg_X6_takeBack_0) (X := xxX6) (M := mX6_takeBack) (t := tX6_takeBack) (anns := ca_X6_takeBack_0) 1 xx6 pl6 rfl kX6_takeBack qq_ok cx_X6_takeBack_0 cc_X6_takeBack_0
def ck_X11_undo_0 : AK := (3, [.inr (.inl [0])], [1, 27], false, [([], .inl (.ofNat 0, .ofNat 30), []), ([], .inl (.negSucc 0, .negSucc 0), [])], [])
def cg_X11_undo_0 : List (Nat × AK) := [(260, ck_X6_takeBack_0)]
def ca_X11_undo_0 : List (Nat × AA) := []
set_option maxRecDepth 100000 in
theorem cc_X11_undo_0 : aChk QPl CF ck_X11_undo_0 cg_X11_undo_0 xxX11 mX11_undo tX11_undo ca_X11_undo_0 [] 1 = true := by decide +kernel
theorem cx_X11_undo_0 : ctsO QQ CF xxX11 cg_X11_undo_0 := ctsO_cons rfl ct_X6_takeBack_0 (ctsO_nil)
theorem ct_X11_undo_0 : ctrO QQ CF ck_X11_undo_0 mX11_undo := chk_ok (Q := QQ) (QP := QPl) (C := CF) (c := ck_X11_undo_0) (G := cg_X11_undo_0) (X := xxX11) (M := mX11_undo) (t := tX11_undo) (anns := ca_X11_undo_0) 1 xx11 pl11 rfl kX11_undo qq_ok cx_X11_undo_0 cc_X11_undo_0
def ck_X10_mayCut_0 : AK := (3, [.inr (.inl [26]), .inl fr, .inl fr], [24], false, [([fr, fr], .inl (.ofNat 0, .ofNat 0), []), ([(.ofNat 0, .ofNat 7), fr], .inl (.ofNat 1, .ofNat 1), [])], [])
def cg_X10_mayCut_0 : List (Nat × AK) := [(46, ck_X9_hasThing_0), (59, ck_X2_allows_0)]
def ca_X10_mayCut_0 : List (Nat × AA) := []
set_option maxRecDepth 100000 in
theorem cc_X10_mayCut_0 : aChk QPl CF ck_X10_mayCut_0 cg_X10_mayCut_0 xxX10 mX10_mayCut tX10_mayCut ca_X10_mayCut_0 [] 1 = true := by decide +kernel
theorem cx_X10_mayCut_0 : ctsO QQ CF xxX10 cg_X10_mayCut_0 := ctsO_cons rfl ct_X9_hasThing_0 (ctsO_cons rfl ct_X2_allows_0 (ctsO_nil))
theorem ct_X10_mayCut_0 : ctrO QQ CF ck_X10_mayCut_0 mX10_mayCut := chk_ok (Q := QQ) (QP := QPl) (C := CF) (c := ck_X10_mayCut_0) (G := cg_X10_mayCut_0) (X := xxX10) (M := mX10_mayCut) (t := tX10_mayCut) (anns := ca_X10_mayCut_0) 1 xx10 pl10 rfl kX10_mayCut qq_ok cx_X10_mayCut_0 cc_X10_mayCut_0
def ck_X11_of_0 : AK := (4, [.inr (.inl [0]), .inl fr, .inl fr], [24], false, [([(.ofNat 0, .ofNat 7), (.ofNat 0, .ofNat 5)], .inl fr, []), ([fr, fr], .inl (.negSucc 0, .negSucc 0), []), ([(.ofNat 0, .ofNat 7), (.ofNat 4, .ofNat 6)], .inl (.ofNat 0, .ofNat 10), [])], [])
def cg_X11_of_0 : List (Nat × AK) := [(265, ck_X9_hasThing_0), (277, ck_X10_shadowOf_0), (283, ck_X10_mayCut_0), (280, ck_X10_growsOf_0)]
def ca_X11_of_0 : List (Nat × AA) := []
set_option maxRecDepth 100000 in
theorem cc_X11_of_0 : aChk QPl CF ck_X11_of_0 cg_X11_of_0 xxX11 mX11_of tX11_of ca_X11_of_0 [] 1 = true := by decide +kernel
theorem cx_X11_of_0 : ctsO QQ CF xxX11 cg_X11_of_0 := ctsO_cons rfl ct_X9_hasThing_0 (ctsO_cons rfl ct_X10_shadowOf_0 (ctsO_cons rfl ct_X10_mayCut_0 (ctsO_cons rfl ct_X10_growsOf_0 (ctsO_nil))))
theorem ct_X11_of_0 : ctrO QQ CF ck_X11_of_0 mX11_of := chk_ok (Q := QQ) (QP := QPl) (C := CF) (c := ck_X11_of_0) (G := cg_X11_of_0) (X := xxX11) (M := mX11_of) (t := tX11_of) (anns := ca_X11_of_0) 1 xx11 pl11 rfl kX11_of qq_ok cx_X11_of_0 cc_X11_of_0
def ck_X11_ofReaper_0 : AK := (2, [.inr (.inl [0]), .inl fr, .inl fr], [], false, [([(.ofNat 0, .ofNat 3), (.ofNat 0, .ofNat 2)], .inl fr, []), ([fr, fr], .inl (.negSucc 0, .negSucc 0), [])], [])
def cg_X11_ofReaper_0 : List (Nat × AK) := [(286, ck_X9_hasReaper_0)]
def ca_X11_ofReaper_0 : List (Nat × AA) := []
set_option maxRecDepth 100000 in
theorem cc_X11_ofReaper_0 : aChk QPl CF ck_X11_ofReaper_0 cg_X11_ofReaper_0 xxX11 mX11_ofReaper tX11_ofReaper ca_X11_ofReaper_0 [] 1 = true := by decide +kernel
theorem cx_X11_ofReaper_0 : ctsO QQ CF xxX11 cg_X11_ofReaper_0 := ctsO_cons rfl ct_X9_hasReaper_0 (ctsO_nil)
theorem ct_X11_ofReaper_0 : ctrO QQ CF ck_X11_ofReaper_0 mX11_ofReaper := chk_ok (Q := QQ) (QP := QPl) (C := CF) (c := ck_X11_ofReaper_0) (G := cg_X11_ofReaper_0) (X := xxX11) (M := mX11_ofReaper) (t := tX11_ofReaper) (anns := ca_X11_ofReaper_0) 1 xx11 pl11 rfl kX11_ofReaper qq_ok cx_X11_ofReaper_0 cc_X11_ofReaper_0
def ck_X11_bale_0 : AK := (4, [.inr (.inl [0]), .inl fr, .inl fr], [24], false, [([(.ofNat 0, .ofNat 11), (.ofNat 0, .ofNat 5)], .inl fr, []), ([fr, fr], .inl (.negSucc 0, .negSucc 0), []), ([(.ofNat 0, .ofNat 11), (.ofNat 4, .ofNat 5)], .inl (.ofNat 0, .ofNat 1), [])], [])
def cg_X11_bale_0 : List (Nat × AK) := [(292, ck_X10_hasBale_0), (298, ck_X10_sellsOf_0), (295, ck_X10_spoilsOf_0)]
def ca_X11_bale_0 : List (Nat × AA) := []
set_option maxRecDepth 100000 in
theorem cc_X11_bale_0 : aChk QPl CF ck_X11_bale_0 cg_X11_bale_0 xxX11 mX11_bale tX11_bale ca_X11_bale_0 [] 1 = true := by decide +kernel
theorem cx_X11_bale_0 : ctsO QQ CF xxX11 cg_X11_bale_0 := ctsO_cons rfl ct_X10_hasBale_0 (ctsO_cons rfl ct_X10_sellsOf_0 (ctsO_cons rfl ct_X10_spoilsOf_0 (ctsO_nil)))
theorem ct_X11_bale_0 : ctrO QQ CF ck_X11_bale_0 mX11_bale := chk_ok (Q := QQ) (QP := QPl) (C := CF) (c := ck_X11_bale_0) (G := cg_X11_bale_0) (X := xxX11) (M := mX11_bale) (t := tX11_bale) (anns := ca_X11_bale_0) 1 xx11 pl11 rfl kX11_bale qq_ok cx_X11_bale_0 cc_X11_bale_0
def ck_X11_ofBarn_0 : AK := (2, [.inr (.inl [0]), .inl fr, .inl fr], [], false, [([(.ofNat 0, .ofNat 3), (.ofNat 0, .ofNat 1)], .inl fr, []), ([fr, fr], .inl (.negSucc 0, .negSucc 0), [])], [])
def cg_X11_ofBarn_0 : List (Nat × AK) := [(152, ck_X9_hasBarn_0), (160, ck_X10_feetIn_0)]
def ca_X11_ofBarn_0 : List (Nat × AA) := []
set_option maxRecDepth 100000 in
theorem cc_X11_ofBarn_0 : aChk QPl CF ck_X11_ofBarn_0 cg_X11_ofBarn_0 xxX11 mX11_ofBarn tX11_ofBarn ca_X11_ofBarn_0 [] 1 = true := by decide +kernel
theorem cx_X11_ofBarn_0 : ctsO QQ CF xxX11 cg_X11_ofBarn_0 := ctsO_cons rfl ct_X9_hasBarn_0 (ctsO_cons rfl ct_X10_feetIn_0 (ctsO_nil))
theorem ct_X11_ofBarn_0 : ctrO QQ CF ck_X11_ofBarn_0 mX11_ofBarn := chk_ok (Q := QQ) (QP := QPl) (C := CF) (c := ck_X11_ofBarn_0) (G := cg_X11_ofBarn_0) (X := xxX11) (M := mX11_ofBarn) (t := tX11_ofBarn) (anns := ca_X11_ofBarn_0) 1 xx11 pl11 rfl kX11_ofBarn qq_ok cx_X11_ofBarn_0 cc_X11_ofBarn_0
def ck_X10_takeFrom_0 : AK := (1, [.inr (.inl [28]), .inr (.inl [27])], [29], false, [([], .inr (.inr 9), [])], [])
def cg_X10_takeFrom_0 : List (Nat × AK) := []
def ca_X10_takeFrom_0 : List (Nat × AA) := []
set_option maxRecDepth 100000 in
theorem cc_X10_takeFrom_0 : aChk QPl CF ck_X10_takeFrom_0 cg_X10_takeFrom_0 xxX10 mX10_takeFrom tX10_takeFrom ca_X10_takeFrom_0 [] 1 = true := by decide +kernel
theorem cx_X10_takeFrom_0 : ctsO QQ CF xxX10 cg_X10_takeFrom_0 := ctsO_nil
theorem ct_X10_takeFrom_0 : ctrO QQ CF ck_X10_takeFrom_0 mX10_takeFrom := chk_ok (Q := QQ) (QP := QPl) (C := CF) (c := ck_X10_takeFrom_0) (G := cg_X10_takeFrom_0) (X := xxX10) (M := mX10_takeFrom) (t := tX10_takeFrom) (anns := ca_X10_takeFrom_0) 1 xx10 pl10 rfl kX10_takeFrom qq_ok cx_X10_takeFrom_0 cc_X10_takeFrom_0
def ck_X10_hoursLeft_1 : AK := (1, [.inr (.inl [28])], [], false, [([], .inl fr, [])], [])
def cg_X10_hoursLeft_1 : List (Nat × AK) := []
def ca_X10_hoursLeft_1 : List (Nat × AA) := []
set_option maxRecDepth 100000 in
theorem cc_X10_hoursLeft_1 : aChk QPl CF ck_X10_hoursLeft_1 cg_X10_hoursLeft_1 xxX10 mX10_hoursLeft tX10_hoursLeft ca_X10_hoursLeft_1 [] 1 = true := by decide +kernel
theorem cx_X10_hoursLeft_1 : ctsO QQ CF xxX10 cg_X10_hoursLeft_1 := ctsO_nil
theorem ct_X10_hoursLeft_1 : ctrO QQ CF ck_X10_hoursLeft_1 mX10_hoursLeft := chk_ok (Q := QQ) (QP := QPl) (C := CF) (c := ck_X10_hoursLeft_1) (G := cg_X10_hoursLeft_1) (X := xxX10) (M := mX10_hoursLeft) (t := tX10_hoursLeft) (anns := ca_X10_hoursLeft_1) 1 xx10 pl10 rfl kX10_hoursLeft qq_ok cx_X10_hoursLeft_1 cc_X10_hoursLeft_1
def ck_X10_draw_1 : AK := (1, [.inr (.inl [28]), .inl fr], [29], false, [([(.ofNat 1, .ofNat 2147483647)], .inl (.negSucc 2147483645, .ofNat 2147483646), []), ([(.negSucc 2147483647, .ofNat 0)], .inl (.ofNat 0, .ofNat 0), [])], [])
def cg_X10_draw_1 : List (Nat × AK) := []
def ca_X10_draw_1 : List (Nat × AA) := []
set_option maxRecDepth 100000 in
theorem cc_X10_draw_1 : aChk QPl CF ck_X10_draw_1 cg_X10_draw_1 xxX10 mX10_draw tX10_draw ca_X10_draw_1 [] 1 = true := by decide +kernel
theorem cx_X10_draw_1 : ctsO QQ CF xxX10 cg_X10_draw_1 := ctsO_nil
theorem ct_X10_draw_1 : ctrO QQ CF ck_X10_draw_1 mX10_draw := chk_ok (Q := QQ) (QP := QPl) (C := CF) (c := ck_X10_draw_1) (G := cg_X10_draw_1) (X := xxX10) (M := mX10_draw) (t := tX10_draw) (anns := ca_X10_draw_1) 1 xx10 pl10 rfl kX10_draw qq_ok cx_X10_draw_1 cc_X10_draw_1
def ck_X10_growsOf_1 : AK := (3, [.inr (.inl [28]), .inl fr], [24], false, [([fr], .inl (.ofNat 0, .ofNat 10), []), ([(.ofNat 0, .ofNat 7)], .inl fr, [])], [])
def cg_X10_growsOf_1 : List (Nat × AK) := [(46, ck_X9_hasThing_0), (55, ck_X2_growth_0)]
def ca_X10_growsOf_1 : List (Nat × AA) := []
set_option maxRecDepth 100000 in
theorem cc_X10_growsOf_1 : aChk QPl CF ck_X10_growsOf_1 cg_X10_growsOf_1 xxX10 mX10_growsOf tX10_growsOf ca_X10_growsOf_1 [] 1 = true := by decide +kernel
theorem cx_X10_growsOf_1 : ctsO QQ CF xxX10 cg_X10_growsOf_1 := ctsO_cons rfl ct_X9_hasThing_0 (ctsO_cons rfl ct_X2_growth_0 (ctsO_nil))
theorem ct_X10_growsOf_1 : ctrO QQ CF ck_X10_growsOf_1 mX10_growsOf := chk_ok (Q := QQ) (QP := QPl) (C := CF) (c := ck_X10_growsOf_1) (G := cg_X10_growsOf_1) (X := xxX10) (M := mX10_growsOf) (t := tX10_growsOf) (anns := ca_X10_growsOf_1) 1 xx10 pl10 rfl kX10_growsOf qq_ok cx_X10_growsOf_1 cc_X10_growsOf_1
def ck_X10_hasBale_1 : AK := (1, [.inr (.inl [28]), .inl fr], [], false, [([(.ofNat 0, .ofNat 11)], .inl (.ofNat 1, .ofNat 1), []), ([fr], .inl (.ofNat 0, .ofNat 0), [])], [])
def cg_X10_hasBale_1 : List (Nat × AK) := []
def ca_X10_hasBale_1 : List (Nat × AA) := []
set_option maxRecDepth 100000 in
theorem cc_X10_hasBale_1 : aChk QPl CF ck_X10_hasBale_1 cg_X10_hasBale_1 xxX10 mX10_hasBale tX10_hasBale ca_X10_hasBale_1 [] 1 = true := by decide +kernel
theorem cx_X10_hasBale_1 : ctsO QQ CF xxX10 cg_X10_hasBale_1 := ctsO_nil
theorem ct_X10_hasBale_1 : ctrO QQ CF ck_X10_hasBale_1 mX10_hasBale := chk_ok (Q := QQ) (QP := QPl) (C := CF) (c := ck_X10_hasBale_1) (G := cg_X10_hasBale_1) (X := xxX10) (M := mX10_hasBale) (t := tX10_hasBale) (anns := ca_X10_hasBale_1) 1 xx10 pl10 rfl kX10_hasBale qq_ok cx_X10_hasBale_1 cc_X10_hasBale_1
def ck_X10_balesIn_1 : AK := (1, [.inr (.inl [28]), .inl fr], [], false, [([fr], .inl fr, [])], [])
def cg_X10_balesIn_1 : List (Nat × AK) := []
def ca_X10_balesIn_1 : List (Nat × AA) := [(4, [(.ofNat 0, .ofNat 0), fr, fr, (.ofNat 0, .ofNat 12)], [.inr (.inl [28]), .inl (1, .ofNat 0), .inl (2, .ofNat 0), .inl (3, .ofNat 0)], [], [], [(0, 2, 0), (0, 3, 0)], (.ofNat 12, [.ofNat 0, .ofNat 0, .ofNat 0, .negSucc 0]))]
set_option maxRecDepth 100000 in
theorem cc_X10_balesIn_1 : aChk QPl CF ck_X10_balesIn_1 cg_X10_balesIn_1 xxX10 mX10_balesIn tX10_balesIn ca_X10_balesIn_1 [] 13 = true := by decide +kernel
theorem cx_X10_balesIn_1 : ctsO QQ CF xxX10 cg_X10_balesIn_1 := ctsO_nil
theorem ct_X10_balesIn_1 : ctrO QQ CF ck_X10_balesIn_1 mX10_balesIn := chk_ok (Q := QQ) (QP := QPl) (C := CF) (c := ck_X10_balesIn_1) (G := cg_X10_balesIn_1) (X := xxX10) (M := mX10_balesIn) (t := tX10_balesIn) (anns := ca_X10_balesIn_1) 13 xx10 pl10 rfl kX10_balesIn qq_ok cx_X10_balesIn_1 cc_X10_balesIn_1
def ck_X10_spoilsOf_1 : AK := (3, [.inr (.inl [28]), .inl fr], [24], false, [([fr], .inl (.ofNat 0, .ofNat 1), []), ([(.ofNat 0, .ofNat 11)], .inl fr, [])], [])
def cg_X10_spoilsOf_1 : List (Nat × AK) := [(63, ck_X10_hasBale_1), (66, ck_X10_balesIn_1), (69, ck_X2_describe_0), (73, ck_X2_spoiling_0)]
def ca_X10_spoilsOf_1 : List (Nat × AA) := []
set_option maxRecDepth 100000 in
theorem cc_X10_spoilsOf_1 : aChk QPl CF ck_X10_spoilsOf_1 cg_X10_spoilsOf_1 xxX10 mX10_spoilsOf tX10_spoilsOf ca_X10_spoilsOf_1 [] 1 = true := by decide +kernel
theorem cx_X10_spoilsOf_1 : ctsO QQ CF xxX10 cg_X10_spoilsOf_1 := ctsO_cons rfl ct_X10_hasBale_1 (ctsO_cons rfl ct_X10_balesIn_1 (ctsO_cons rfl ct_X2_describe_0 (ctsO_cons rfl ct_X2_spoiling_0 (ctsO_nil))))
theorem ct_X10_spoilsOf_1 : ctrO QQ CF ck_X10_spoilsOf_1 mX10_spoilsOf := chk_ok (Q := QQ) (QP := QPl) (C := CF) (c := ck_X10_spoilsOf_1) (G := cg_X10_spoilsOf_1) (X := xxX10) (M := mX10_spoilsOf) (t := tX10_spoilsOf) (anns := ca_X10_spoilsOf_1) 1 xx10 pl10 rfl kX10_spoilsOf qq_ok cx_X10_spoilsOf_1 cc_X10_spoilsOf_1
def ck_X10_shorten_1 : AK := (2, [.inr (.inl [28]), .inl fr, .inl fr], [29], false, [([fr, fr], .inr (.inr 9), [])], [])
def cg_X10_shorten_1 : List (Nat × AK) := [(63, ck_X10_hasBale_1)]
def ca_X10_shorten_1 : List (Nat × AA) := []
set_option maxRecDepth 100000 in
theorem cc_X10_shorten_1 : aChk QPl CF ck_X10_shorten_1 cg_X10_shorten_1 xxX10 mX10_shorten tX10_shorten ca_X10_shorten_1 [] 1 = true := by decide +kernel
theorem cx_X10_shorten_1 : ctsO QQ CF xxX10 cg_X10_shorten_1 := ctsO_cons rfl ct_X10_hasBale_1 (ctsO_nil)
theorem ct_X10_shorten_1 : ctrO QQ CF ck_X10_shorten_1 mX10_shorten := chk_ok (Q := QQ) (QP := QPl) (C := CF) (c := ck_X10_shorten_1) (G := cg_X10_shorten_1) (X := xxX10) (M := mX10_shorten) (t := tX10_shorten) (anns := ca_X10_shorten_1) 1 xx10 pl10 rfl kX10_shorten qq_ok cx_X10_shorten_1 cc_X10_shorten_1
def ck_X10_passHour_1 : AK := (4, [.inr (.inl [28])], [24, 29], false, [([], .inl (.ofNat 0, .ofNat 0), []), ([], .inl (.ofNat 1, .ofNat 1), [])], [])
def cg_X10_passHour_1 : List (Nat × AK) := [(125, ck_X10_hoursLeft_1), (128, ck_X10_draw_1), (135, ck_X10_growsOf_1), (138, ck_X10_spoilsOf_1), (118, ck_X10_shorten_1)]
def ca_X10_passHour_1 : List (Nat × AA) := [(11, [(.ofNat 0, .ofNat 0), (.ofNat 0, .ofNat 4)], [.inr (.inl [28]), .inl (1, .ofNat 0)], [], [], [(0, 1, 0)], (.ofNat 26, [.ofNat 0, .negSucc 0])), (91, [(.ofNat 0, .ofNat 0), (.ofNat 0, .ofNat 8), (.negSucc 2147483645, .ofNat 2147483646)], [.inr (.inl [28]), .inl (1, .ofNat 0)], [], [(29, 66, 2, .ofNat 0)], [(0, 1, 0), (2, 29, 66)], (.ofNat 21, [.ofNat 0, .negSucc 0, .ofNat 0])), (155, [(.ofNat 0, .ofNat 0), (.ofNat 0, .ofNat 12), (.ofNat 0, .ofNat 8)], [.inr (.inl [28]), .inl (1, .ofNat 0)], [], [(12, 5, 2, .ofNat 0)], [(0, 1, 0), (2, 12, 5)], (.ofNat 12, [.ofNat 0, .negSucc 0, .ofNat 0]))]
set_option maxRecDepth 100000 in
theorem cc_X10_passHour_1 : aChk QPl CF ck_X10_passHour_1 cg_X10_passHour_1 xxX10 mX10_passHour tX10_passHour ca_X10_passHour_1 [] 27 = true := by decide +kernel
theorem cx_X10_passHour_1 : ctsO QQ CF xxX10 cg_X10_passHour_1 := ctsO_cons rfl ct_X10_hoursLeft_1 (ctsO_cons rfl ct_X10_draw_1 (ctsO_cons rfl ct_X10_growsOf_1 (ctsO_cons rfl ct_X10_spoilsOf_1 (ctsO_cons rfl ct_X10_shorten_1 (ctsO_nil)))))
theorem ct_X10_passHour_1 : ctrO QQ CF ck_X10_passHour_1 mX10_passHour := chk_ok (Q := QQ) (QP := QPl) (C := CF) (c := ck_X10_passHour_1) (G := cg_X10_passHour_1) (X := xxX10) (M := mX10_passHour) (t := tX10_passHour) (anns := ca_X10_passHour_1) 27 xx10 pl10 rfl kX10_passHour qq_ok cx_X10_passHour_1 cc_X10_passHour_1
def ck_X11_foresee_0 : AK := (5, [.inr (.inl [0]), .inl fr], [24, 29], false, [([fr], .inr (.inr 9), [])], [])
def cg_X11_foresee_0 : List (Nat × AK) := [(304, ck_X10_takeFrom_0), (176, ck_X10_passHour_1)]
def ca_X11_foresee_0 : List (Nat × AA) := [(16, [(.ofNat 0, .ofNat 0), fr, (.ofNat 0, .ofNat 2147483647)], [.inr (.inl [0]), .inl (1, .ofNat 0), .inl (2, .ofNat 0)], [], [], [(0, 2, 0)], (.ofNat 2147483647, [.ofNat 0, .ofNat 0, .negSucc 0]))]
set_option maxRecDepth 100000 in
theorem cc_X11_foresee_0 : aChk QPl CF ck_X11_foresee_0 cg_X11_foresee_0 xxX11 mX11_foresee tX11_foresee ca_X11_foresee_0 [] 2147483648 = true := by decide +kernel
theorem cx_X11_foresee_0 : ctsO QQ CF xxX11 cg_X11_foresee_0 := ctsO_cons rfl ct_X10_takeFrom_0 (ctsO_cons rfl ct_X10_passHour_1 (ctsO_nil))
theorem ct_X11_foresee_0 : ctrO QQ CF ck_X11_foresee_0 mX11_foresee := chk_ok (Q := QQ) (QP := QPl) (C := CF) (c := ck_X11_foresee_0) (G := cg_X11_foresee_0) (X := xxX11) (M := mX11_foresee) (t := tX11_foresee) (anns := ca_X11_foresee_0) 2147483648 xx11 pl11 rfl kX11_foresee qq_ok cx_X11_foresee_0 cc_X11_foresee_0
def ck_X11_foretold_0 : AK := (6, [.inr (.inl [0]), .inl fr, .inl fr], [24, 29], false, [([(.ofNat 1, .ofNat 60), (.ofNat 0, .ofNat 7)], .inl fr, []), ([fr, fr], .inl (.negSucc 0, .negSucc 0), [])], [])
def cg_X11_foretold_0 : List (Nat × AK) := [(120, ck_X11_within_4), (265, ck_X9_hasThing_0), (307, ck_X11_foresee_0)]
def ca_X11_foretold_0 : List (Nat × AA) := []
set_option maxRecDepth 100000 in
theorem cc_X11_foretold_0 : aChk QPl CF ck_X11_foretold_0 cg_X11_foretold_0 xxX11 mX11_foretold tX11_foretold ca_X11_foretold_0 [] 1 = true := by decide +kernel
theorem cx_X11_foretold_0 : ctsO QQ CF xxX11 cg_X11_foretold_0 := ctsO_cons rfl ct_X11_within_4 (ctsO_cons rfl ct_X9_hasThing_0 (ctsO_cons rfl ct_X11_foresee_0 (ctsO_nil)))
theorem ct_X11_foretold_0 : ctrO QQ CF ck_X11_foretold_0 mX11_foretold := chk_ok (Q := QQ) (QP := QPl) (C := CF) (c := ck_X11_foretold_0) (G := cg_X11_foretold_0) (X := xxX11) (M := mX11_foretold) (t := tX11_foretold) (anns := ca_X11_foretold_0) 1 xx11 pl11 rfl kX11_foretold qq_ok cx_X11_foretold_0 cc_X11_foretold_0
def ck_X10_feetIn_1 : AK := (1, [.inr (.inl [28]), .inl fr], [], false, [([fr], .inl fr, [])], [])
def cg_X10_feetIn_1 : List (Nat × AK) := []
def ca_X10_feetIn_1 : List (Nat × AA) := [(4, [(.ofNat 0, .ofNat 0), fr, fr, (.ofNat 0, .ofNat 12)], [.inr (.inl [28]), .inl (1, .ofNat 0), .inl (2, .ofNat 0), .inl (3, .ofNat 0)], [], [], [(0, 2, 0), (0, 3, 0)], (.ofNat 12, [.ofNat 0, .ofNat 0, .ofNat 0, .negSucc 0]))]
set_option maxRecDepth 100000 in
theorem cc_X10_feetIn_1 : aChk QPl CF ck_X10_feetIn_1 cg_X10_feetIn_1 xxX10 mX10_feetIn tX10_feetIn ca_X10_feetIn_1 [] 13 = true := by decide +kernel
theorem cx_X10_feetIn_1 : ctsO QQ CF xxX10 cg_X10_feetIn_1 := ctsO_nil
theorem ct_X10_feetIn_1 : ctrO QQ CF ck_X10_feetIn_1 mX10_feetIn := chk_ok (Q := QQ) (QP := QPl) (C := CF) (c := ck_X10_feetIn_1) (G := cg_X10_feetIn_1) (X := xxX10) (M := mX10_feetIn) (t := tX10_feetIn) (anns := ca_X10_feetIn_1) 13 xx10 pl10 rfl kX10_feetIn qq_ok cx_X10_feetIn_1 cc_X10_feetIn_1
def ck_X11_stored_0 : AK := (6, [.inr (.inl [0]), .inl fr, .inl fr], [24, 29], false, [([(.ofNat 1, .ofNat 60), (.ofNat 0, .ofNat 3)], .inl fr, []), ([fr, fr], .inl (.negSucc 0, .negSucc 0), [])], [])
def cg_X11_stored_0 : List (Nat × AK) := [(120, ck_X11_within_4), (152, ck_X9_hasBarn_0), (307, ck_X11_foresee_0), (160, ck_X10_feetIn_1)]
def ca_X11_stored_0 : List (Nat × AA) := []
set_option maxRecDepth 100000 in
theorem cc_X11_stored_0 : aChk QPl CF ck_X11_stored_0 cg_X11_stored_0 xxX11 mX11_stored tX11_stored ca_X11_stored_0 [] 1 = true := by decide +kernel
theorem cx_X11_stored_0 : ctsO QQ CF xxX11 cg_X11_stored_0 := ctsO_cons rfl ct_X11_within_4 (ctsO_cons rfl ct_X9_hasBarn_0 (ctsO_cons rfl ct_X11_foresee_0 (ctsO_cons rfl ct_X10_feetIn_1 (ctsO_nil))))
theorem ct_X11_stored_0 : ctrO QQ CF ck_X11_stored_0 mX11_stored := chk_ok (Q := QQ) (QP := QPl) (C := CF) (c := ck_X11_stored_0) (G := cg_X11_stored_0) (X := xxX11) (M := mX11_stored) (t := tX11_stored) (anns := ca_X11_stored_0) 1 xx11 pl11 rfl kX11_stored qq_ok cx_X11_stored_0 cc_X11_stored_0
def ck_X11_within_10 : AK := (1, [.inl fr, .inl (.ofNat 1, .ofNat 1), .inl (.ofNat 4, .ofNat 4)], [], false, [([(.ofNat 1, .ofNat 4), (.ofNat 1, .ofNat 1), (.ofNat 4, .ofNat 4)], .inl (.ofNat 1, .ofNat 1), []), ([fr, (.ofNat 1, .ofNat 1), (.ofNat 4, .ofNat 4)], .inl (.ofNat 0, .ofNat 0), [])], [])
def cg_X11_within_10 : List (Nat × AK) := []
def ca_X11_within_10 : List (Nat × AA) := []
set_option maxRecDepth 100000 in
theorem cc_X11_within_10 : aChk QPl CF ck_X11_within_10 cg_X11_within_10 xxX11 mX11_within tX11_within ca_X11_within_10 [] 1 = true := by decide +kernel
theorem cx_X11_within_10 : ctsO QQ CF xxX11 cg_X11_within_10 := ctsO_nil
theorem ct_X11_within_10 : ctrO QQ CF ck_X11_within_10 mX11_within := chk_ok (Q := QQ) (QP := QPl) (C := CF) (c := ck_X11_within_10) (G := cg_X11_within_10) (X := xxX11) (M := mX11_within) (t := tX11_within) (anns := ca_X11_within_10) 1 xx11 pl11 rfl kX11_within qq_ok cx_X11_within_10 cc_X11_within_10
def ck_X11_within_11 : AK := (1, [.inl fr, .inl (.negSucc 0, .negSucc 0), .inl (.ofNat 0, .ofNat 3)], [], false, [([(.negSucc 0, .ofNat 3), (.negSucc 0, .negSucc 0), (.ofNat 0, .ofNat 3)], .inl (.ofNat 1, .ofNat 1), []), ([fr, (.negSucc 0, .negSucc 0), (.ofNat 0, .ofNat 3)], .inl (.ofNat 0, .ofNat 0), [])], [])
def cg_X11_within_11 : List (Nat × AK) := []
def ca_X11_within_11 : List (Nat × AA) := []
set_option maxRecDepth 100000 in
theorem cc_X11_within_11 : aChk QPl CF ck_X11_within_11 cg_X11_within_11 xxX11 mX11_within tX11_within ca_X11_within_11 [] 1 = true := by decide +kernel
theorem cx_X11_within_11 : ctsO QQ CF xxX11 cg_X11_within_11 := ctsO_nil
theorem ct_X11_within_11 : ctrO QQ CF ck_X11_within_11 mX11_within := chk_ok (Q := QQ) (QP := QPl) (C := CF) (c := ck_X11_within_11) (G := cg_X11_within_11) (X := xxX11) (M := mX11_within) (t := tX11_within) (anns := ca_X11_within_11) 1 xx11 pl11 rfl kX11_within qq_ok cx_X11_within_11 cc_X11_within_11
def ck_X10_freeBale_1 : AK := (1, [.inr (.inl [28])], [], false, [([], .inl (.ofNat 0, .ofNat 11), []), ([], .inl (.negSucc 0, .negSucc 0), [])], [])
def cg_X10_freeBale_1 : List (Nat × AK) := []
def ca_X10_freeBale_1 : List (Nat × AA) := [(2, [(.ofNat 0, .ofNat 0), (.ofNat 0, .ofNat 12)], [.inr (.inl [28]), .inl (1, .ofNat 0)], [], [], [(0, 1, 0)], (.ofNat 12, [.ofNat 0, .negSucc 0]))]
set_option maxRecDepth 100000 in
theorem cc_X10_freeBale_1 : aChk QPl CF ck_X10_freeBale_1 cg_X10_freeBale_1 xxX10 mX10_freeBale tX10_freeBale ca_X10_freeBale_1 [] 13 = true := by decide +kernel
theorem cx_X10_freeBale_1 : ctsO QQ CF xxX10 cg_X10_freeBale_1 := ctsO_nil
theorem ct_X10_freeBale_1 : ctrO QQ CF ck_X10_freeBale_1 mX10_freeBale := chk_ok (Q := QQ) (QP := QPl) (C := CF) (c := ck_X10_freeBale_1) (G := cg_X10_freeBale_1) (X := xxX10) (M := mX10_freeBale) (t := tX10_freeBale) (anns := ca_X10_freeBale_1) 13 xx10 pl10 rfl kX10_freeBale qq_ok cx_X10_freeBale_1 cc_X10_freeBale_1
def ck_X10_cutLength_1 : AK := (3, [.inr (.inl [28]), .inl fr, .inl fr, .inl fr], [24], false, [([fr, fr, fr], .inl (.ofNat 0, .ofNat 2147483647), [])], [])
def cg_X10_cutLength_1 : List (Nat × AK) := [(46, ck_X9_hasThing_0), (80, ck_X9_hasReaper_0), (33, ck_X9_hasBarn_0), (83, ck_X10_freeBale_1), (49, ck_X2_shadow_0), (39, ck_X10_feetIn_1), (59, ck_X2_allows_0)]
def ca_X10_cutLength_1 : List (Nat × AA) := []
set_option maxRecDepth 100000 in
theorem cc_X10_cutLength_1 : aChk QPl CF ck_X10_cutLength_1 cg_X10_cutLength_1 xxX10 mX10_cutLength tX10_cutLength ca_X10_cutLength_1 [] 1 = true := by decide +kernel
theorem cx_X10_cutLength_1 : ctsO QQ CF xxX10 cg_X10_cutLength_1 := ctsO_cons rfl ct_X9_hasThing_0 (ctsO_cons rfl ct_X9_hasReaper_0 (ctsO_cons rfl ct_X9_hasBarn_0 (ctsO_cons rfl ct_X10_freeBale_1 (ctsO_cons rfl ct_X2_shadow_0 (ctsO_cons rfl ct_X10_feetIn_1 (ctsO_cons rfl ct_X2_allows_0 (ctsO_nil)))))))
theorem ct_X10_cutLength_1 : ctrO QQ CF ck_X10_cutLength_1 mX10_cutLength := chk_ok (Q := QQ) (QP := QPl) (C := CF) (c := ck_X10_cutLength_1) (G := cg_X10_cutLength_1) (X := xxX10) (M := mX10_cutLength) (t := tX10_cutLength) (anns := ca_X10_cutLength_1) 1 xx10 pl10 rfl kX10_cutLength qq_ok cx_X10_cutLength_1 cc_X10_cutLength_1
def ck_X3_consider_0 : AK := (1, [.inr (.inl [36]), .inl fr], [36, 39], false, [([fr], .inr (.inr 9), [])], [])
def cg_X3_consider_0 : List (Nat × AK) := []
def ca_X3_consider_0 : List (Nat × AA) := []
set_option maxRecDepth 100000 in
theorem cc_X3_consider_0 : aChk QPl CF ck_X3_consider_0 cg_X3_consider_0 xxX3 mX3_consider tX3_consider ca_X3_consider_0 [] 1 = true := by decide +kernel
theorem cx_X3_consider_0 : ctsO QQ CF xxX3 cg_X3_consider_0 := ctsO_nil
theorem ct_X3_consider_0 : ctrO QQ CF ck_X3_consider_0 mX3_consider := chk_ok (Q := QQ) (QP := QPl) (C := CF) (c := ck_X3_consider_0) (G := cg_X3_consider_0) (X := xxX3) (M := mX3_consider) (t := tX3_consider) (anns := ca_X3_consider_0) 1 xx3 pl3 rfl kX3_consider qq_ok cx_X3_consider_0 cc_X3_consider_0
def ck_X10_shadowOf_1 : AK := (3, [.inr (.inl [28]), .inl fr], [24], false, [([fr], .inl (.ofNat 0, .ofNat 0), []), ([(.ofNat 0, .ofNat 7)], .inl fr, [])], [])
def cg_X10_shadowOf_1 : List (Nat × AK) := [(46, ck_X9_hasThing_0), (49, ck_X2_shadow_0)]
def ca_X10_shadowOf_1 : List (Nat × AA) := []
set_option maxRecDepth 100000 in
theorem cc_X10_shadowOf_1 : aChk QPl CF ck_X10_shadowOf_1 cg_X10_shadowOf_1 xxX10 mX10_shadowOf tX10_shadowOf ca_X10_shadowOf_1 [] 1 = true := by decide +kernel
theorem cx_X10_shadowOf_1 : ctsO QQ CF xxX10 cg_X10_shadowOf_1 := ctsO_cons rfl ct_X9_hasThing_0 (ctsO_cons rfl ct_X2_shadow_0 (ctsO_nil))
theorem ct_X10_shadowOf_1 : ctrO QQ CF ck_X10_shadowOf_1 mX10_shadowOf := chk_ok (Q := QQ) (QP := QPl) (C := CF) (c := ck_X10_shadowOf_1) (G := cg_X10_shadowOf_1) (X := xxX10) (M := mX10_shadowOf) (t := tX10_shadowOf) (anns := ca_X10_shadowOf_1) 1 xx10 pl10 rfl kX10_shadowOf qq_ok cx_X10_shadowOf_1 cc_X10_shadowOf_1
def ck_X10_bind_1 : AK := (2, [.inr (.inl [28]), .inl fr, .inl fr, .inl fr], [29], false, [([fr, fr, fr], .inl (.ofNat 0, .ofNat 11), []), ([fr, fr, fr], .inl (.negSucc 0, .negSucc 0), [])], [])
def cg_X10_bind_1 : List (Nat × AK) := [(83, ck_X10_freeBale_1)]
def ca_X10_bind_1 : List (Nat × AA) := []
set_option maxRecDepth 100000 in
theorem cc_X10_bind_1 : aChk QPl CF ck_X10_bind_1 cg_X10_bind_1 xxX10 mX10_bind tX10_bind ca_X10_bind_1 [] 1 = true := by decide +kernel
theorem cx_X10_bind_1 : ctsO QQ CF xxX10 cg_X10_bind_1 := ctsO_cons rfl ct_X10_freeBale_1 (ctsO_nil)
theorem ct_X10_bind_1 : ctrO QQ CF ck_X10_bind_1 mX10_bind := chk_ok (Q := QQ) (QP := QPl) (C := CF) (c := ck_X10_bind_1) (G := cg_X10_bind_1) (X := xxX10) (M := mX10_bind) (t := tX10_bind) (anns := ca_X10_bind_1) 1 xx10 pl10 rfl kX10_bind qq_ok cx_X10_bind_1 cc_X10_bind_1
def ck_X10_cutOff_1 : AK := (4, [.inr (.inl [28]), .inl fr, .inl fr, .inl fr], [24, 29], false, [([fr, fr, fr], .inl (.negSucc 0, .negSucc 0), []), ([(.ofNat 0, .ofNat 7), (.ofNat 0, .ofNat 3), fr], .inl (.ofNat 0, .ofNat 11), [])], [])
def cg_X10_cutOff_1 : List (Nat × AK) := [(95, ck_X10_cutLength_1), (99, ck_X10_shadowOf_1), (46, ck_X9_hasThing_0), (80, ck_X9_hasReaper_0), (105, ck_X10_bind_1)]
def ca_X10_cutOff_1 : List (Nat × AA) := []
set_option maxRecDepth 100000 in
theorem cc_X10_cutOff_1 : aChk QPl CF ck_X10_cutOff_1 cg_X10_cutOff_1 xxX10 mX10_cutOff tX10_cutOff ca_X10_cutOff_1 [] 1 = true := by decide +kernel
theorem cx_X10_cutOff_1 : ctsO QQ CF xxX10 cg_X10_cutOff_1 := ctsO_cons rfl ct_X10_cutLength_1 (ctsO_cons rfl ct_X10_shadowOf_1 (ctsO_cons rfl ct_X9_hasThing_0 (ctsO_cons rfl ct_X9_hasReaper_0 (ctsO_cons rfl ct_X10_bind_1 (ctsO_nil)))))
theorem ct_X10_cutOff_1 : ctrO QQ CF ck_X10_cutOff_1 mX10_cutOff := chk_ok (Q := QQ) (QP := QPl) (C := CF) (c := ck_X10_cutOff_1) (G := cg_X10_cutOff_1) (X := xxX10) (M := mX10_cutOff) (t := tX10_cutOff) (anns := ca_X10_cutOff_1) 1 xx10 pl10 rfl kX10_cutOff qq_ok cx_X10_cutOff_1 cc_X10_cutOff_1
def ck_X3_search_0 : AK := (1, [.inr (.inl [36]), .inl (.ofNat 4, .ofNat 4), .inl fr], [], false, [([(.ofNat 4, .ofNat 4), fr], .inr (.inr 9), [])], [])
def cg_X3_search_0 : List (Nat × AK) := []
def ca_X3_search_0 : List (Nat × AA) := []
set_option maxRecDepth 100000 in
theorem cc_X3_search_0 : aChk QPl CF ck_X3_search_0 cg_X3_search_0 xxX3 mX3_search tX3_search ca_X3_search_0 [] 1 = true := by decide +kernel
theorem cx_X3_search_0 : ctsO QQ CF xxX3 cg_X3_search_0 := ctsO_nil
theorem ct_X3_search_0 : ctrO QQ CF ck_X3_search_0 mX3_search := chk_ok (Q := QQ) (QP := QPl) (C := CF) (c := ck_X3_search_0) (G := cg_X3_search_0) (X := xxX3) (M := mX3_search) (t := tX3_search) (anns := ca_X3_search_0) 1 xx3 pl3 rfl kX3_search qq_ok cx_X3_search_0 cc_X3_search_0
def ck_X3_search_1 : AK := (5, [.inr (.inl [36]), .inl (.ofNat 3, .ofNat 3), .inl fr], [24, 29, 36, 37, 38, 39], false, [([(.ofNat 3, .ofNat 3), fr], .inr (.inr 9), [])], [])
def cg_X3_search_1 : List (Nat × AK) := [(68, ck_X10_cutLength_1), (72, ck_X3_consider_0), (76, ck_X10_cutOff_1), (79, ck_X10_passHour_1), (55, ck_X3_search_0)]
def ca_X3_search_1 : List (Nat × AA) := [(72, [(.ofNat 0, .ofNat 0), (.ofNat 3, .ofNat 3), fr, (.ofNat 0, .ofNat 0), (.ofNat 0, .ofNat 10)], [.inr (.inl [36]), .inl (1, .ofNat 0), .inl (2, .ofNat 0), .inl (3, .ofNat 0), .inl (4, .ofNat 0), .inr (.inr 0), .inr (.inr 0)], [], [], [(0, 3, 0), (0, 4, 0)], (.ofNat 10, [.ofNat 0, .ofNat 0, .ofNat 0, .ofNat 0, .negSucc 0]))]
set_option maxRecDepth 100000 in
theorem cc_X3_search_1 : aChk QPl CF ck_X3_search_1 cg_X3_search_1 xxX3 mX3_search tX3_search ca_X3_search_1 [] 11 = true := by decide +kernel
theorem cx_X3_search_1 : ctsO QQ CF xxX3 cg_X3_search_1 := ctsO_cons rfl ct_X10_cutLength_1 (ctsO_cons rfl ct_X3_consider_0 (ctsO_cons rfl ct_X10_cutOff_1 (ctsO_cons rfl ct_X10_passHour_1 (ctsO_cons rfl ct_X3_search_0 (ctsO_nil)))))
theorem ct_X3_search_1 : ctrO QQ CF ck_X3_search_1 mX3_search := chk_ok (Q := QQ) (QP := QPl) (C := CF) (c := ck_X3_search_1) (G := cg_X3_search_1) (X := xxX3) (M := mX3_search) (t := tX3_search) (anns := ca_X3_search_1) 11 xx3 pl3 rfl kX3_search qq_ok cx_X3_search_1 cc_X3_search_1
def ck_X3_search_2 : AK := (6, [.inr (.inl [36]), .inl (.ofNat 2, .ofNat 2), .inl fr], [24, 29, 36, 37, 38, 39], false, [([(.ofNat 2, .ofNat 2), fr], .inr (.inr 9), [])], [])
def cg_X3_search_2 : List (Nat × AK) := [(68, ck_X10_cutLength_1), (72, ck_X3_consider_0), (76, ck_X10_cutOff_1), (79, ck_X10_passHour_1), (55, ck_X3_search_1)]
def ca_X3_search_2 : List (Nat × AA) := [(72, [(.ofNat 0, .ofNat 0), (.ofNat 2, .ofNat 2), fr, (.ofNat 0, .ofNat 0), (.ofNat 0, .ofNat 10)], [.inr (.inl [36]), .inl (1, .ofNat 0), .inl (2, .ofNat 0), .inl (3, .ofNat 0), .inl (4, .ofNat 0), .inr (.inr 0), .inr (.inr 0)], [], [], [(0, 3, 0), (0, 4, 0)], (.ofNat 10, [.ofNat 0, .ofNat 0, .ofNat 0, .ofNat 0, .negSucc 0]))]
set_option maxRecDepth 100000 in
theorem cc_X3_search_2 : aChk QPl CF ck_X3_search_2 cg_X3_search_2 xxX3 mX3_search tX3_search ca_X3_search_2 [] 11 = true := by decide +kernel
theorem cx_X3_search_2 : ctsO QQ CF xxX3 cg_X3_search_2 := ctsO_cons rfl ct_X10_cutLength_1 (ctsO_cons rfl ct_X3_consider_0 (ctsO_cons rfl ct_X10_cutOff_1 (ctsO_cons rfl ct_X10_passHour_1 (ctsO_cons rfl ct_X3_search_1 (ctsO_nil)))))
theorem ct_X3_search_2 : ctrO QQ CF ck_X3_search_2 mX3_search := chk_ok (Q := QQ) (QP := QPl) (C := CF) (c := ck_X3_search_2) (G := cg_X3_search_2) (X := xxX3) (M := mX3_search) (t := tX3_search) (anns := ca_X3_search_2) 11 xx3 pl3 rfl kX3_search qq_ok cx_X3_search_2 cc_X3_search_2
def ck_X3_search_3 : AK := (7, [.inr (.inl [36]), .inl (.ofNat 1, .ofNat 1), .inl fr], [24, 29, 36, 37, 38, 39], false, [([(.ofNat 1, .ofNat 1), fr], .inr (.inr 9), [])], [])
def cg_X3_search_3 : List (Nat × AK) := [(68, ck_X10_cutLength_1), (72, ck_X3_consider_0), (76, ck_X10_cutOff_1), (79, ck_X10_passHour_1), (55, ck_X3_search_2)]
def ca_X3_search_3 : List (Nat × AA) := [(72, [(.ofNat 0, .ofNat 0), (.ofNat 1, .ofNat 1), fr, (.ofNat 0, .ofNat 0), (.ofNat 0, .ofNat 10)], [.inr (.inl [36]), .inl (1, .ofNat 0), .inl (2, .ofNat 0), .inl (3, .ofNat 0), .inl (4, .ofNat 0), .inr (.inr 0), .inr (.inr 0)], [], [], [(0, 3, 0), (0, 4, 0)], (.ofNat 10, [.ofNat 0, .ofNat 0, .ofNat 0, .ofNat 0, .negSucc 0]))]
set_option maxRecDepth 100000 in
theorem cc_X3_search_3 : aChk QPl CF ck_X3_search_3 cg_X3_search_3 xxX3 mX3_search tX3_search ca_X3_search_3 [] 11 = true := by decide +kernel
theorem cx_X3_search_3 : ctsO QQ CF xxX3 cg_X3_search_3 := ctsO_cons rfl ct_X10_cutLength_1 (ctsO_cons rfl ct_X3_consider_0 (ctsO_cons rfl ct_X10_cutOff_1 (ctsO_cons rfl ct_X10_passHour_1 (ctsO_cons rfl ct_X3_search_2 (ctsO_nil)))))
theorem ct_X3_search_3 : ctrO QQ CF ck_X3_search_3 mX3_search := chk_ok (Q := QQ) (QP := QPl) (C := CF) (c := ck_X3_search_3) (G := cg_X3_search_3) (X := xxX3) (M := mX3_search) (t := tX3_search) (anns := ca_X3_search_3) 11 xx3 pl3 rfl kX3_search qq_ok cx_X3_search_3 cc_X3_search_3
def ck_X3_search_4 : AK := (8, [.inr (.inl [36]), .inl (.ofNat 0, .ofNat 0), .inl fr], [24, 29, 36, 37, 38, 39], false, [([(.ofNat 0, .ofNat 0), fr], .inr (.inr 9), [])], [])
def cg_X3_search_4 : List (Nat × AK) := [(68, ck_X10_cutLength_1), (72, ck_X3_consider_0), (76, ck_X10_cutOff_1), (79, ck_X10_passHour_1), (55, ck_X3_search_3)]
def ca_X3_search_4 : List (Nat × AA) := [(72, [(.ofNat 0, .ofNat 0), (.ofNat 0, .ofNat 0), fr, (.ofNat 0, .ofNat 0), (.ofNat 0, .ofNat 10)], [.inr (.inl [36]), .inl (1, .ofNat 0), .inl (2, .ofNat 0), .inl (3, .ofNat 0), .inl (4, .ofNat 0), .inr (.inr 0), .inr (.inr 0)], [], [], [(0, 3, 0), (0, 4, 0)], (.ofNat 10, [.ofNat 0, .ofNat 0, .ofNat 0, .ofNat 0, .negSucc 0]))]
set_option maxRecDepth 100000 in
theorem cc_X3_search_4 : aChk QPl CF ck_X3_search_4 cg_X3_search_4 xxX3 mX3_search tX3_search ca_X3_search_4 [] 11 = true := by decide +kernel
theorem cx_X3_search_4 : ctsO QQ CF xxX3 cg_X3_search_4 := ctsO_cons rfl ct_X10_cutLength_1 (ctsO_cons rfl ct_X3_consider_0 (ctsO_cons rfl ct_X10_cutOff_1 (ctsO_cons rfl ct_X10_passHour_1 (ctsO_cons rfl ct_X3_search_3 (ctsO_nil)))))
theorem ct_X3_search_4 : ctrO QQ CF ck_X3_search_4 mX3_search := chk_ok (Q := QQ) (QP := QPl) (C := CF) (c := ck_X3_search_4) (G := cg_X3_search_4) (X := xxX3) (M := mX3_search) (t := tX3_search) (anns := ca_X3_search_4) 11 xx3 pl3 rfl kX3_search qq_ok cx_X3_search_4 cc_X3_search_4
def ck_X3_start_0 : AK := (9, [.inr (.inl [36]), .inl fr, .inl fr, .inl fr], [24, 29, 36, 37, 38, 39], false, [([fr, fr, fr], .inr (.inr 9), [])], [])
def cg_X3_start_0 : List (Nat × AK) := [(47, ck_X9_hasReaper_0), (55, ck_X3_search_4)]
def ca_X3_start_0 : List (Nat × AA) := []
set_option maxRecDepth 100000 in
theorem cc_X3_start_0 : aChk QPl CF ck_X3_start_0 cg_X3_start_0 xxX3 mX3_start tX3_start ca_X3_start_0 [] 1 = true := by decide +kernel
theorem cx_X3_start_0 : ctsO QQ CF xxX3 cg_X3_start_0 := ctsO_cons rfl ct_X9_hasReaper_0 (ctsO_cons rfl ct_X3_search_4 (ctsO_nil))
theorem ct_X3_start_0 : ctrO QQ CF ck_X3_start_0 mX3_start := chk_ok (Q := QQ) (QP := QPl) (C := CF) (c := ck_X3_start_0) (G := cg_X3_start_0) (X := xxX3) (M := mX3_start) (t := tX3_start) (anns := ca_X3_start_0) 1 xx3 pl3 rfl kX3_start qq_ok cx_X3_start_0 cc_X3_start_0
def ck_X3_thingAt_0 : AK := (1, [.inr (.inl [36]), .inl fr], [], false, [([(.ofNat 0, .ofNat 3)], .inl fr, []), ([fr], .inl (.negSucc 0, .negSucc 0), [])], [])
def cg_X3_thingAt_0 : List (Nat × AK) := []
def ca_X3_thingAt_0 : List (Nat × AA) := []
set_option maxRecDepth 100000 in
theorem cc_X3_thingAt_0 : aChk QPl CF ck_X3_thingAt_0 cg_X3_thingAt_0 xxX3 mX3_thingAt tX3_thingAt ca_X3_thingAt_0 [] 1 = true := by decide +kernel
theorem cx_X3_thingAt_0 : ctsO QQ CF xxX3 cg_X3_thingAt_0 := ctsO_nil
theorem ct_X3_thingAt_0 : ctrO QQ CF ck_X3_thingAt_0 mX3_thingAt := chk_ok (Q := QQ) (QP := QPl) (C := CF) (c := ck_X3_thingAt_0) (G := cg_X3_thingAt_0) (X := xxX3) (M := mX3_thingAt) (t := tX3_thingAt) (anns := ca_X3_thingAt_0) 1 xx3 pl3 rfl kX3_thingAt qq_ok cx_X3_thingAt_0 cc_X3_thingAt_0
def ck_X11_most_0 : AK := (10, [.inr (.inl [0]), .inl fr, .inl fr, .inl fr, .inl fr], [24, 29, 36, 37, 38, 39], false, [([(.ofNat 0, .ofNat 3), (.ofNat 0, .ofNat 3), (.ofNat 1, .ofNat 4), (.negSucc 0, .ofNat 3)], .inl fr, []), ([fr, fr, fr, fr], .inl (.negSucc 0, .negSucc 0), [])], [])
def cg_X11_most_0 : List (Nat × AK) := [(286, ck_X9_hasReaper_0), (152, ck_X9_hasBarn_0), (120, ck_X11_within_10), (120, ck_X11_within_11), (304, ck_X10_takeFrom_0), (310, ck_X3_start_0), (317, ck_X3_thingAt_0)]
def ca_X11_most_0 : List (Nat × AA) := []
set_option maxRecDepth 100000 in
theorem cc_X11_most_0 : aChk QPl CF ck_X11_most_0 cg_X11_most_0 xxX11 mX11_most tX11_most ca_X11_most_0 [] 1 = true := by decide +kernel
theorem cx_X11_most_0 : ctsO QQ CF xxX11 cg_X11_most_0 := ctsO_cons rfl ct_X9_hasReaper_0 (ctsO_cons rfl ct_X9_hasBarn_0 (ctsO_cons rfl ct_X11_within_10 (ctsO_cons rfl ct_X11_within_11 (ctsO_cons rfl ct_X10_takeFrom_0 (ctsO_cons rfl ct_X3_start_0 (ctsO_cons rfl ct_X3_thingAt_0 (ctsO_nil)))))))
theorem ct_X11_most_0 : ctrO QQ CF ck_X11_most_0 mX11_most := chk_ok (Q := QQ) (QP := QPl) (C := CF) (c := ck_X11_most_0) (G := cg_X11_most_0) (X := xxX11) (M := mX11_most) (t := tX11_most) (anns := ca_X11_most_0) 1 xx11 pl11 rfl kX11_most qq_ok cx_X11_most_0 cc_X11_most_0
def ck_X11_within_12 : AK := (1, [.inl fr, .inl (.ofNat 0, .ofNat 0), .inl (.ofNat 999, .ofNat 999)], [], false, [([(.ofNat 0, .ofNat 999), (.ofNat 0, .ofNat 0), (.ofNat 999, .ofNat 999)], .inl (.ofNat 1, .ofNat 1), []), ([fr, (.ofNat 0, .ofNat 0), (.ofNat 999, .ofNat 999)], .inl (.ofNat 0, .ofNat 0), [])], [])
def cg_X11_within_12 : List (Nat × AK) := []
def ca_X11_within_12 : List (Nat × AA) := []
set_option maxRecDepth 100000 in
theorem cc_X11_within_12 : aChk QPl CF ck_X11_within_12 cg_X11_within_12 xxX11 mX11_within tX11_within ca_X11_within_12 [] 1 = true := by decide +kernel
theorem cx_X11_within_12 : ctsO QQ CF xxX11 cg_X11_within_12 := ctsO_nil
theorem ct_X11_within_12 : ctrO QQ CF ck_X11_within_12 mX11_within := chk_ok (Q := QQ) (QP := QPl) (C := CF) (c := ck_X11_within_12) (G := cg_X11_within_12) (X := xxX11) (M := mX11_within) (t := tX11_within) (anns := ca_X11_within_12) 1 xx11 pl11 rfl kX11_within qq_ok cx_X11_within_12 cc_X11_within_12
def ck_X11_need_0 : AK := (2, [.inr (.inl [0]), .inl fr, .inl fr], [0, 3, 4], false, [([(.negSucc 0, .ofNat 999), fr], .inl (.ofNat 0, .ofNat 8), []), ([fr, fr], .inl (.negSucc 1, .negSucc 1), [])], [])
def cg_X11_need_0 : List (Nat × AK) := [(120, ck_X11_within_12), (120, ck_X11_within_3)]
def ca_X11_need_0 : List (Nat × AA) := []
set_option maxRecDepth 100000 in
theorem cc_X11_need_0 : aChk QPl CF ck_X11_need_0 cg_X11_need_0 xxX11 mX11_need tX11_need ca_X11_need_0 [] 1 = true := by decide +kernel
theorem cx_X11_need_0 : ctsO QQ CF xxX11 cg_X11_need_0 := ctsO_cons rfl ct_X11_within_12 (ctsO_cons rfl ct_X11_within_3 (ctsO_nil))
theorem ct_X11_need_0 : ctrO QQ CF ck_X11_need_0 mX11_need := chk_ok (Q := QQ) (QP := QPl) (C := CF) (c := ck_X11_need_0) (G := cg_X11_need_0) (X := xxX11) (M := mX11_need) (t := tX11_need) (anns := ca_X11_need_0) 1 xx11 pl11 rfl kX11_need qq_ok cx_X11_need_0 cc_X11_need_0
def ck_X11_within_13 : AK := (1, [.inl fr, .inl (.ofNat 1, .ofNat 1), .inl (.ofNat 20, .ofNat 20)], [], false, [([(.ofNat 1, .ofNat 20), (.ofNat 1, .ofNat 1), (.ofNat 20, .ofNat 20)], .inl (.ofNat 1, .ofNat 1), []), ([fr, (.ofNat 1, .ofNat 1), (.ofNat 20, .ofNat 20)], .inl (.ofNat 0, .ofNat 0), [])], [])
def cg_X11_within_13 : List (Nat × AK) := []
def ca_X11_within_13 : List (Nat × AA) := []
set_option maxRecDepth 100000 in
theorem cc_X11_within_13 : aChk QPl CF ck_X11_within_13 cg_X11_within_13 xxX11 mX11_within tX11_within ca_X11_within_13 [] 1 = true := by decide +kernel
theorem cx_X11_within_13 : ctsO QQ CF xxX11 cg_X11_within_13 := ctsO_nil
theorem ct_X11_within_13 : ctrO QQ CF ck_X11_within_13 mX11_within := chk_ok (Q := QQ) (QP := QPl) (C := CF) (c := ck_X11_within_13) (G := cg_X11_within_13) (X := xxX11) (M := mX11_within) (t := tX11_within) (anns := ca_X11_within_13) 1 xx11 pl11 rfl kX11_within qq_ok cx_X11_within_13 cc_X11_within_13
def ck_X10_darkest_1 : AK := (2, [.inr (.inl [28]), .inl fr], [], false, [([fr], .inl (.negSucc 0, .ofNat 11), [])], [])
def cg_X10_darkest_1 : List (Nat × AK) := [(63, ck_X10_hasBale_1)]
def ca_X10_darkest_1 : List (Nat × AA) := [(4, [(.ofNat 0, .ofNat 0), fr, (.negSucc 0, .ofNat 11), (.ofNat 0, .ofNat 12)], [.inr (.inl [28]), .inl (1, .ofNat 0), .inl (2, .ofNat 0), .inl (3, .ofNat 0), .inr (.inr 0)], [], [], [(0, 2, 0), (0, 3, 0)], (.ofNat 12, [.ofNat 0, .ofNat 0, .ofNat 0, .negSucc 0]))]
set_option maxRecDepth 100000 in
theorem cc_X10_darkest_1 : aChk QPl CF ck_X10_darkest_1 cg_X10_darkest_1 xxX10 mX10_darkest tX10_darkest ca_X10_darkest_1 [] 13 = true := by decide +kernel
theorem cx_X10_darkest_1 : ctsO QQ CF xxX10 cg_X10_darkest_1 := ctsO_cons rfl ct_X10_hasBale_1 (ctsO_nil)
theorem ct_X10_darkest_1 : ctrO QQ CF ck_X10_darkest_1 mX10_darkest := chk_ok (Q := QQ) (QP := QPl) (C := CF) (c := ck_X10_darkest_1) (G := cg_X10_darkest_1) (X := xxX10) (M := mX10_darkest) (t := tX10_darkest) (anns := ca_X10_darkest_1) 13 xx10 pl10 rfl kX10_darkest qq_ok cx_X10_darkest_1 cc_X10_darkest_1
def ck_X10_takeFeet_1 : AK := (3, [.inr (.inl [28]), .inl fr, .inl fr], [29], false, [([(.negSucc 2147483646, .ofNat 2147483647), fr], .inl (.ofNat 0, .ofNat 0), []), ([fr, fr], .inl (.ofNat 1, .ofNat 1), [])], [])
def cg_X10_takeFeet_1 : List (Nat × AK) := [(39, ck_X10_feetIn_1), (115, ck_X10_darkest_1), (63, ck_X10_hasBale_1), (118, ck_X10_shorten_1)]
def ca_X10_takeFeet_1 : List (Nat × AA) := [(16, [(.ofNat 0, .ofNat 0), fr, fr, (.ofNat 0, .ofNat 12), fr], [.inr (.inl [28]), .inl (1, .ofNat 0), .inl (2, .ofNat 0), .inl (4, .ofNat 0), .inl (3, .ofNat 0), .inr (.inr 0), .inr (.inr 0)], [], [], [(0, 4, 0), (0, 3, 0)], (.ofNat 12, [.ofNat 0, .ofNat 0, .ofNat 0, .negSucc 0, .ofNat 0]))]
set_option maxRecDepth 100000 in
theorem cc_X10_takeFeet_1 : aChk QPl CF ck_X10_takeFeet_1 cg_X10_takeFeet_1 xxX10 mX10_takeFeet tX10_takeFeet ca_X10_takeFeet_1 [] 13 = true := by decide +kernel
theorem cx_X10_takeFeet_1 : ctsO QQ CF xxX10 cg_X10_takeFeet_1 := ctsO_cons rfl ct_X10_feetIn_1 (ctsO_cons rfl ct_X10_darkest_1 (ctsO_cons rfl ct_X10_hasBale_1 (ctsO_cons rfl ct_X10_shorten_1 (ctsO_nil))))
theorem ct_X10_takeFeet_1 : ctrO QQ CF ck_X10_takeFeet_1 mX10_takeFeet := chk_ok (Q := QQ) (QP := QPl) (C := CF) (c := ck_X10_takeFeet_1) (G := cg_X10_takeFeet_1) (X := xxX10) (M := mX10_takeFeet) (t := tX10_takeFeet) (anns := ca_X10_takeFeet_1) 13 xx10 pl10 rfl kX10_takeFeet qq_ok cx_X10_takeFeet_1 cc_X10_takeFeet_1
def ck_X11_firstUnmet_0 : AK := (4, [.inr (.inl [0]), .inl fr], [29], false, [([fr], .inl (.ofNat 0, .ofNat 7), []), ([fr], .inl (.negSucc 0, .negSucc 0), [])], [])
def cg_X11_firstUnmet_0 : List (Nat × AK) := [(156, ck_X10_takeFeet_1)]
def ca_X11_firstUnmet_0 : List (Nat × AA) := [(2, [(.ofNat 0, .ofNat 0), fr, (.ofNat 0, .ofNat 8)], [.inr (.inl [0]), .inl (1, .ofNat 0), .inl (2, .ofNat 0)], [], [], [(0, 2, 0)], (.ofNat 8, [.ofNat 0, .ofNat 0, .negSucc 0]))]
set_option maxRecDepth 100000 in
theorem cc_X11_firstUnmet_0 : aChk QPl CF ck_X11_firstUnmet_0 cg_X11_firstUnmet_0 xxX11 mX11_firstUnmet tX11_firstUnmet ca_X11_firstUnmet_0 [] 9 = true := by decide +kernel
theorem cx_X11_firstUnmet_0 : ctsO QQ CF xxX11 cg_X11_firstUnmet_0 := ctsO_cons rfl ct_X10_takeFeet_1 (ctsO_nil)
theorem ct_X11_firstUnmet_0 : ctrO QQ CF ck_X11_firstUnmet_0 mX11_firstUnmet := chk_ok (Q := QQ) (QP := QPl) (C := CF) (c := ck_X11_firstUnmet_0) (G := cg_X11_firstUnmet_0) (X := xxX11) (M := mX11_firstUnmet) (t := tX11_firstUnmet) (anns := ca_X11_firstUnmet_0) 9 xx11 pl11 rfl kX11_firstUnmet qq_ok cx_X11_firstUnmet_0 cc_X11_firstUnmet_0
def ck_X11_unmet_0 : AK := (5, [.inr (.inl [0]), .inl fr], [24, 29], false, [([fr], .inl (.negSucc 0, .negSucc 0), []), ([(.ofNat 1, .ofNat 20)], .inl (.ofNat 0, .ofNat 7), [])], [])
def cg_X11_unmet_0 : List (Nat × AK) := [(120, ck_X11_within_13), (304, ck_X10_takeFrom_0), (176, ck_X10_passHour_1), (320, ck_X11_firstUnmet_0)]
def ca_X11_unmet_0 : List (Nat × AA) := [(28, [(.ofNat 0, .ofNat 0), (.ofNat 1, .ofNat 20), (.ofNat 0, .ofNat 200)], [.inr (.inl [0]), .inl (1, .ofNat 0), .inl (2, .ofNat 0), .inr (.inr 0)], [], [], [(0, 2, 0)], (.ofNat 200, [.ofNat 0, .ofNat 0, .negSucc 0]))]
set_option maxRecDepth 100000 in
theorem cc_X11_unmet_0 : aChk QPl CF ck_X11_unmet_0 cg_X11_unmet_0 xxX11 mX11_unmet tX11_unmet ca_X11_unmet_0 [] 201 = true := by decide +kernel
theorem cx_X11_unmet_0 : ctsO QQ CF xxX11 cg_X11_unmet_0 := ctsO_cons rfl ct_X11_within_13 (ctsO_cons rfl ct_X10_takeFrom_0 (ctsO_cons rfl ct_X10_passHour_1 (ctsO_cons rfl ct_X11_firstUnmet_0 (ctsO_nil))))
theorem ct_X11_unmet_0 : ctrO QQ CF ck_X11_unmet_0 mX11_unmet := chk_ok (Q := QQ) (QP := QPl) (C := CF) (c := ck_X11_unmet_0) (G := cg_X11_unmet_0) (X := xxX11) (M := mX11_unmet) (t := tX11_unmet) (anns := ca_X11_unmet_0) 201 xx11 pl11 rfl kX11_unmet qq_ok cx_X11_unmet_0 cc_X11_unmet_0
def ck_X11_within_14 : AK := (1, [.inl fr, .inl (.ofNat 1, .ofNat 1), .inl (.ofNat 9999, .ofNat 9999)], [], false, [([(.ofNat 1, .ofNat 9999), (.ofNat 1, .ofNat 1), (.ofNat 9999, .ofNat 9999)], .inl (.ofNat 1, .ofNat 1), []), ([fr, (.ofNat 1, .ofNat 1), (.ofNat 9999, .ofNat 9999)], .inl (.ofNat 0, .ofNat 0), [])], [])
def cg_X11_within_14 : List (Nat × AK) := []
def ca_X11_within_14 : List (Nat × AA) := []
set_option maxRecDepth 100000 in
theorem cc_X11_within_14 : aChk QPl CF ck_X11_within_14 cg_X11_within_14 xxX11 mX11_within tX11_within ca_X11_within_14 [] 1 = true := by decide +kernel
theorem cx_X11_within_14 : ctsO QQ CF xxX11 cg_X11_within_14 := ctsO_nil
theorem ct_X11_within_14 : ctrO QQ CF ck_X11_within_14 mX11_within := chk_ok (Q := QQ) (QP := QPl) (C := CF) (c := ck_X11_within_14) (G := cg_X11_within_14) (X := xxX11) (M := mX11_within) (t := tX11_within) (anns := ca_X11_within_14) 1 xx11 pl11 rfl kX11_within qq_ok cx_X11_within_14 cc_X11_within_14
def ck_X11_within_15 : AK := (1, [.inl fr, .inl (.ofNat 0, .ofNat 0), .inl (.ofNat 60, .ofNat 60)], [], false, [([(.ofNat 0, .ofNat 60), (.ofNat 0, .ofNat 0), (.ofNat 60, .ofNat 60)], .inl (.ofNat 1, .ofNat 1), []), ([fr, (.ofNat 0, .ofNat 0), (.ofNat 60, .ofNat 60)], .inl (.ofNat 0, .ofNat 0), [])], [])
def cg_X11_within_15 : List (Nat × AK) := []
def ca_X11_within_15 : List (Nat × AA) := []
set_option maxRecDepth 100000 in
theorem cc_X11_within_15 : aChk QPl CF ck_X11_within_15 cg_X11_within_15 xxX11 mX11_within tX11_within ca_X11_within_15 [] 1 = true := by decide +kernel
theorem cx_X11_within_15 : ctsO QQ CF xxX11 cg_X11_within_15 := ctsO_nil
theorem ct_X11_within_15 : ctrO QQ CF ck_X11_within_15 mX11_within := chk_ok (Q := QQ) (QP := QPl) (C := CF) (c := ck_X11_within_15) (G := cg_X11_within_15) (X := xxX11) (M := mX11_within) (t := tX11_within) (anns := ca_X11_within_15) 1 xx11 pl11 rfl kX11_within qq_ok cx_X11_within_15 cc_X11_within_15
def ck_X10_longestFeet_0 : AK := (1, [.inr (.inl [28]), .inl fr, .inl fr], [], false, [([fr, fr], .inl fr, [])], [])
def cg_X10_longestFeet_0 : List (Nat × AK) := []
def ca_X10_longestFeet_0 : List (Nat × AA) := [(8, [(.ofNat 0, .ofNat 0), fr, fr, fr, fr, (.ofNat 0, .ofNat 2147483647)], [.inr (.inl [28]), .inl (1, .ofNat 0), .inl (2, .ofNat 0), .inl (3, .ofNat 0), .inl (4, .ofNat 0), .inl (5, .ofNat 0), .inr (.inr 0), .inr (.inr 0), .inr (.inr 0)], [], [], [(0, 3, 0), (0, 4, 0), (0, 5, 0)], (.ofNat 30064771071, [.ofNat 0, .ofNat 0, .ofNat 0, .ofNat 0, .ofNat 0, .negSucc 13])), (20, [(.ofNat 0, .ofNat 0), fr, (.ofNat 1, .ofNat 2147483647), fr, fr, (.ofNat 0, .ofNat 2147483646), (.negSucc 0, .ofNat 11), (.ofNat 0, .ofNat 12)], [.inr (.inl [28]), .inl (1, .ofNat 0), .inl (2, .ofNat 0), .inl (3, .ofNat 0), .inl (4, .ofNat 0), .inl (5, .ofNat 0), .inl (6, .ofNat 0), .inl (7, .ofNat 0), .inr (.inr 0)], [], [], [(0, 3, 0), (0, 4, 0), (0, 5, 0), (0, 6, 0), (0, 7, 0)], (.ofNat 30064771070, [.ofNat 0, .ofNat 0, .ofNat 0, .ofNat 0, .ofNat 0, .negSucc 13, .ofNat 0, .negSucc 0]))]
set_option maxRecDepth 100000 in
theorem cc_X10_longestFeet_0 : aChk QPl CF ck_X10_longestFeet_0 cg_X10_longestFeet_0 xxX10 mX10_longestFeet tX10_longestFeet ca_X10_longestFeet_0 [] 30064771072 = true := by decide +kernel
theorem cx_X10_longestFeet_0 : ctsO QQ CF xxX10 cg_X10_longestFeet_0 := ctsO_nil
theorem ct_X10_longestFeet_0 : ctrO QQ CF ck_X10_longestFeet_0 mX10_longestFeet := chk_ok (Q := QQ) (QP := QPl) (C := CF) (c := ck_X10_longestFeet_0) (G := cg_X10_longestFeet_0) (X := xxX10) (M := mX10_longestFeet) (t := tX10_longestFeet) (anns := ca_X10_longestFeet_0) 30064771072 xx10 pl10 rfl kX10_longestFeet qq_ok cx_X10_longestFeet_0 cc_X10_longestFeet_0
def ck_X11_enough_0 : AK := (6, [.inr (.inl [0]), .inl fr, .inl fr], [24, 29], false, [([fr, fr], .inl (.negSucc 0, .negSucc 0), []), ([(.ofNat 1, .ofNat 9999), (.ofNat 0, .ofNat 60)], .inl fr, [])], [])
def cg_X11_enough_0 : List (Nat × AK) := [(120, ck_X11_within_14), (120, ck_X11_within_15), (307, ck_X11_foresee_0), (323, ck_X10_longestFeet_0)]
def ca_X11_enough_0 : List (Nat × AA) := [(30, [(.ofNat 0, .ofNat 0), (.ofNat 1, .ofNat 9999), (.ofNat 0, .ofNat 60), (.ofNat 1, .ofNat 23)], [.inr (.inl [0]), .inl (1, .ofNat 0), .inl (2, .ofNat 0), .inl (3, .ofNat 0), .inr (.inr 0), .inr (.inr 0), .inr (.inr 0)], [], [], [(0, 3, 0)], (.ofNat 36, [.ofNat 0, .ofNat 0, .ofNat 0, .negSucc 0])), (74, [(.ofNat 0, .ofNat 0), (.ofNat 1, .ofNat 9999), (.ofNat 0, .ofNat 60), fr, fr, (.negSucc 0, .ofNat 11), fr], [.inr (.inl [0]), .inl (1, .ofNat 0), .inl (2, .ofNat 0), .inl (3, .ofNat 0), .inl (4, .ofNat 0), .inl (6, .ofNat 0), .inl (5, .ofNat 0)], [], [], [(0, 3, 0), (0, 4, 0), (0, 6, 0), (0, 5, 0)], (.ofNat 1, [.ofNat 0, .ofNat 0, .ofNat 0, .ofNat 0, .ofNat 0, .ofNat 1, .ofNat 0]))]
set_option maxRecDepth 100000 in
theorem cc_X11_enough_0 : aChk QPl CF ck_X11_enough_0 cg_X11_enough_0 xxX11 mX11_enough tX11_enough ca_X11_enough_0 [] 36 = true := by decide +kernel
theorem cx_X11_enough_0 : ctsO QQ CF xxX11 cg_X11_enough_0 := ctsO_cons rfl ct_X11_within_14 (ctsO_cons rfl ct_X11_within_15 (ctsO_cons rfl ct_X11_foresee_0 (ctsO_cons rfl ct_X10_longestFeet_0 (ctsO_nil))))
theorem ct_X11_enough_0 : ctrO QQ CF ck_X11_enough_0 mX11_enough := chk_ok (Q := QQ) (QP := QPl) (C := CF) (c := ck_X11_enough_0) (G := cg_X11_enough_0) (X := xxX11) (M := mX11_enough) (t := tX11_enough) (anns := ca_X11_enough_0) 36 xx11 pl11 rfl kX11_enough qq_ok cx_X11_enough_0 cc_X11_enough_0
def ck_X11_within_16 : AK := (1, [.inl fr, .inl (.ofNat 1, .ofNat 1), .inl (.ofNat 8, .ofNat 8)], [], false, [([(.ofNat 1, .ofNat 8), (.ofNat 1, .ofNat 1), (.ofNat 8, .ofNat 8)], .inl (.ofNat 1, .ofNat 1), []), ([fr, (.ofNat 1, .ofNat 1), (.ofNat 8, .ofNat 8)], .inl (.ofNat 0, .ofNat 0), [])], [])
def cg_X11_within_16 : List (Nat × AK) := []
def ca_X11_within_16 : List (Nat × AA) := []
set_option maxRecDepth 100000 in
theorem cc_X11_within_16 : aChk QPl CF ck_X11_within_16 cg_X11_within_16 xxX11 mX11_within tX11_within ca_X11_within_16 [] 1 = true := by decide +kernel
theorem cx_X11_within_16 : ctsO QQ CF xxX11 cg_X11_within_16 := ctsO_nil
theorem ct_X11_within_16 : ctrO QQ CF ck_X11_within_16 mX11_within := chk_ok (Q := QQ) (QP := QPl) (C := CF) (c := ck_X11_within_16) (G := cg_X11_within_16) (X := xxX11) (M := mX11_within) (t := tX11_within) (anns := ca_X11_within_16) 1 xx11 pl11 rfl kX11_within qq_ok cx_X11_within_16 cc_X11_within_16
def ck_X11_within_17 : AK := (1, [.inl fr, .inl (.ofNat 0, .ofNat 0), .inl (.ofNat 9, .ofNat 9)], [], false, [([(.ofNat 0, .ofNat 9), (.ofNat 0, .ofNat 0), (.ofNat 9, .ofNat 9)], .inl (.ofNat 1, .ofNat 1), []), ([fr, (.ofNat 0, .ofNat 0), (.ofNat 9, .ofNat 9)], .inl (.ofNat 0, .ofNat 0), [])], [])
def cg_X11_within_17 : List (Nat × AK) := []
def ca_X11_within_17 : List (Nat × AA) := []
set_option maxRecDepth 100000 in
theorem cc_X11_within_17 : aChk QPl CF ck_X11_within_17 cg_X11_within_17 xxX11 mX11_within tX11_within ca_X11_within_17 [] 1 = true := by decide +kernel
theorem cx_X11_within_17 : ctsO QQ CF xxX11 cg_X11_within_17 := ctsO_nil
theorem ct_X11_within_17 : ctrO QQ CF ck_X11_within_17 mX11_within := chk_ok (Q := QQ) (QP := QPl) (C := CF) (c := ck_X11_within_17) (G := cg_X11_within_17) (X := xxX11) (M := mX11_within) (t := tX11_within) (anns := ca_X11_within_17) 1 xx11 pl11 rfl kX11_within qq_ok cx_X11_within_17 cc_X11_within_17
def ck_X11_within_18 : AK := (1, [.inl fr, .inl (.ofNat 0, .ofNat 0), .inl (.ofNat 1, .ofNat 1)], [], false, [([(.ofNat 0, .ofNat 1), (.ofNat 0, .ofNat 0), (.ofNat 1, .ofNat 1)], .inl (.ofNat 1, .ofNat 1), []), ([fr, (.ofNat 0, .ofNat 0), (.ofNat 1, .ofNat 1)], .inl (.ofNat 0, .ofNat 0), [])], [])
def cg_X11_within_18 : List (Nat × AK) := []
def ca_X11_within_18 : List (Nat × AA) := []
set_option maxRecDepth 100000 in
theorem cc_X11_within_18 : aChk QPl CF ck_X11_within_18 cg_X11_within_18 xxX11 mX11_within tX11_within ca_X11_within_18 [] 1 = true := by decide +kernel
theorem cx_X11_within_18 : ctsO QQ CF xxX11 cg_X11_within_18 := ctsO_nil
theorem ct_X11_within_18 : ctrO QQ CF ck_X11_within_18 mX11_within := chk_ok (Q := QQ) (QP := QPl) (C := CF) (c := ck_X11_within_18) (G := cg_X11_within_18) (X := xxX11) (M := mX11_within) (t := tX11_within) (anns := ca_X11_within_18) 1 xx11 pl11 rfl kX11_within qq_ok cx_X11_within_18 cc_X11_within_18
def ck_X0_grownBehind_0 : AK := (3, [.inr (.inl [40]), .inl fr, .inl fr], [24], false, [([fr, fr], .inl (.negSucc 2147483647, .ofNat 100), [])], [])
def cg_X0_grownBehind_0 : List (Nat × AK) := [(63, ck_X2_growth_0)]
def ca_X0_grownBehind_0 : List (Nat × AA) := []
set_option maxRecDepth 100000 in
theorem cc_X0_grownBehind_0 : aChk QPl CF ck_X0_grownBehind_0 cg_X0_grownBehind_0 xxX0 mX0_grownBehind tX0_grownBehind ca_X0_grownBehind_0 [] 1 = true := by decide +kernel
theorem cx_X0_grownBehind_0 : ctsO QQ CF xxX0 cg_X0_grownBehind_0 := ctsO_cons rfl ct_X2_growth_0 (ctsO_nil)
theorem ct_X0_grownBehind_0 : ctrO QQ CF ck_X0_grownBehind_0 mX0_grownBehind := chk_ok (Q := QQ) (QP := QPl) (C := CF) (c := ck_X0_grownBehind_0) (G := cg_X0_grownBehind_0) (X := xxX0) (M := mX0_grownBehind) (t := tX0_grownBehind) (anns := ca_X0_grownBehind_0) 1 xx0 pl0 rfl kX0_grownBehind qq_ok cx_X0_grownBehind_0 cc_X0_grownBehind_0
def ck_X0_search_0 : AK := (1, [.inr (.inl [40]), .inl (.ofNat 8, .ofNat 8), .inl fr, .inl fr, .inl fr], [40], false, [([(.ofNat 8, .ofNat 8), fr, fr, fr], .inr (.inr 9), [])], [])
def cg_X0_search_0 : List (Nat × AK) := []
def ca_X0_search_0 : List (Nat × AA) := []
set_option maxRecDepth 100000 in
theorem cc_X0_search_0 : aChk QPl CF ck_X0_search_0 cg_X0_search_0 xxX0 mX0_search tX0_search ca_X0_search_0 [] 1 = true := by decide +kernel
theorem cx_X0_search_0 : ctsO QQ CF xxX0 cg_X0_search_0 := ctsO_nil
theorem ct_X0_search_0 : ctrO QQ CF ck_X0_search_0 mX0_search := chk_ok (Q := QQ) (QP := QPl) (C := CF) (c := ck_X0_search_0) (G := cg_X0_search_0) (X := xxX0) (M := mX0_search) (t := tX0_search) (anns := ca_X0_search_0) 1 xx0 pl0 rfl kX0_search qq_ok cx_X0_search_0 cc_X0_search_0
def ck_X0_search_1 : AK := (4, [.inr (.inl [40]), .inl (.ofNat 7, .ofNat 7), .inl fr, .inl fr, .inl fr], [24, 40], false, [([(.ofNat 7, .ofNat 7), fr, fr, fr], .inr (.inr 9), [])], [])
def cg_X0_search_1 : List (Nat × AK) := [(55, ck_X2_shadow_0), (59, ck_X0_grownBehind_0), (51, ck_X0_search_0)]
def ca_X0_search_1 : List (Nat × AA) := []
set_option maxRecDepth 100000 in
theorem cc_X0_search_1 : aChk QPl CF ck_X0_search_1 cg_X0_search_1 xxX0 mX0_search tX0_search ca_X0_search_1 [] 1 = true := by decide +kernel
theorem cx_X0_search_1 : ctsO QQ CF xxX0 cg_X0_search_1 := ctsO_cons rfl ct_X2_shadow_0 (ctsO_cons rfl ct_X0_grownBehind_0 (ctsO_cons rfl ct_X0_search_0 (ctsO_nil)))
theorem ct_X0_search_1 : ctrO QQ CF ck_X0_search_1 mX0_search := chk_ok (Q := QQ) (QP := QPl) (C := CF) (c := ck_X0_search_1) (G := cg_X0_search_1) (X := xxX0) (M := mX0_search) (t := tX0_search) (anns := ca_X0_search_1) 1 xx0 pl0 rfl kX0_search qq_ok cx_X0_search_1 cc_X0_search_1
def ck_X0_search_2 : AK := (5, [.inr (.inl [40]), .inl (.ofNat 6, .ofNat 6), .inl fr, .inl fr, .inl fr], [24, 40], false, [([(.ofNat 6, .ofNat 6), fr, fr, fr], .inr (.inr 9), [])], [])
def cg_X0_search_2 : List (Nat × AK) := [(55, ck_X2_shadow_0), (59, ck_X0_grownBehind_0), (51, ck_X0_search_1)]
def ca_X0_search_2 : List (Nat × AA) := []
set_option maxRecDepth 100000 in
theorem cc_X0_search_2 : aChk QPl CF ck_X0_search_2 cg_X0_search_2 xxX0 mX0_search tX0_search ca_X0_search_2 [] 1 = true := by decide +kernel
theorem cx_X0_search_2 : ctsO QQ CF xxX0 cg_X0_search_2 := ctsO_cons rfl ct_X2_shadow_0 (ctsO_cons rfl ct_X0_grownBehind_0 (ctsO_cons rfl ct_X0_search_1 (ctsO_nil)))
theorem ct_X0_search_2 : ctrO QQ CF ck_X0_search_2 mX0_search := chk_ok (Q := QQ) (QP := QPl) (C := CF) (c := ck_X0_search_2) (G := cg_X0_search_2) (X := xxX0) (M := mX0_search) (t := tX0_search) (anns := ca_X0_search_2) 1 xx0 pl0 rfl kX0_search qq_ok cx_X0_search_2 cc_X0_search_2
def ck_X0_search_3 : AK := (6, [.inr (.inl [40]), .inl (.ofNat 5, .ofNat 5), .inl fr, .inl fr, .inl fr], [24, 40], false, [([(.ofNat 5, .ofNat 5), fr, fr, fr], .inr (.inr 9), [])], [])
def cg_X0_search_3 : List (Nat × AK) := [(55, ck_X2_shadow_0), (59, ck_X0_grownBehind_0), (51, ck_X0_search_2)]
def ca_X0_search_3 : List (Nat × AA) := []
set_option maxRecDepth 100000 in
theorem cc_X0_search_3 : aChk QPl CF ck_X0_search_3 cg_X0_search_3 xxX0 mX0_search tX0_search ca_X0_search_3 [] 1 = true := by decide +kernel
theorem cx_X0_search_3 : ctsO QQ CF xxX0 cg_X0_search_3 := ctsO_cons rfl ct_X2_shadow_0 (ctsO_cons rfl ct_X0_grownBehind_0 (ctsO_cons rfl ct_X0_search_2 (ctsO_nil)))
theorem ct_X0_search_3 : ctrO QQ CF ck_X0_search_3 mX0_search := chk_ok (Q := QQ) (QP := QPl) (C := CF) (c := ck_X0_search_3) (G := cg_X0_search_3) (X := xxX0) (M := mX0_search) (t := tX0_search) (anns := ca_X0_search_3) 1 xx0 pl0 rfl kX0_search qq_ok cx_X0_search_3 cc_X0_search_3
def ck_X0_search_4 : AK := (7, [.inr (.inl [40]), .inl (.ofNat 4, .ofNat 4), .inl fr, .inl fr, .inl fr], [24, 40], false, [([(.ofNat 4, .ofNat 4), fr, fr, fr], .inr (.inr 9), [])], [])
def cg_X0_search_4 : List (Nat × AK) := [(55, ck_X2_shadow_0), (59, ck_X0_grownBehind_0), (51, ck_X0_search_3)]
def ca_X0_search_4 : List (Nat × AA) := []
set_option maxRecDepth 100000 in
theorem cc_X0_search_4 : aChk QPl CF ck_X0_search_4 cg_X0_search_4 xxX0 mX0_search tX0_search ca_X0_search_4 [] 1 = true := by decide +kernel
theorem cx_X0_search_4 : ctsO QQ CF xxX0 cg_X0_search_4 := ctsO_cons rfl ct_X2_shadow_0 (ctsO_cons rfl ct_X0_grownBehind_0 (ctsO_cons rfl ct_X0_search_3 (ctsO_nil)))
theorem ct_X0_search_4 : ctrO QQ CF ck_X0_search_4 mX0_search := chk_ok (Q := QQ) (QP := QPl) (C := CF) (c := ck_X0_search_4) (G := cg_X0_search_4) (X := xxX0) (M := mX0_search) (t := tX0_search) (anns := ca_X0_search_4) 1 xx0 pl0 rfl kX0_search qq_ok cx_X0_search_4 cc_X0_search_4
def ck_X0_search_5 : AK := (8, [.inr (.inl [40]), .inl (.ofNat 3, .ofNat 3), .inl fr, .inl fr, .inl fr], [24, 40], false, [([(.ofNat 3, .ofNat 3), fr, fr, fr], .inr (.inr 9), [])], [])
def cg_X0_search_5 : List (Nat × AK) := [(55, ck_X2_shadow_0), (59, ck_X0_grownBehind_0), (51, ck_X0_search_4)]
def ca_X0_search_5 : List (Nat × AA) := []
set_option maxRecDepth 100000 in
theorem cc_X0_search_5 : aChk QPl CF ck_X0_search_5 cg_X0_search_5 xxX0 mX0_search tX0_search ca_X0_search_5 [] 1 = true := by decide +kernel
theorem cx_X0_search_5 : ctsO QQ CF xxX0 cg_X0_search_5 := ctsO_cons rfl ct_X2_shadow_0 (ctsO_cons rfl ct_X0_grownBehind_0 (ctsO_cons rfl ct_X0_search_4 (ctsO_nil)))
theorem ct_X0_search_5 : ctrO QQ CF ck_X0_search_5 mX0_search := chk_ok (Q := QQ) (QP := QPl) (C := CF) (c := ck_X0_search_5) (G := cg_X0_search_5) (X := xxX0) (M := mX0_search) (t := tX0_search) (anns := ca_X0_search_5) 1 xx0 pl0 rfl kX0_search qq_ok cx_X0_search_5 cc_X0_search_5
def ck_X0_search_6 : AK := (9, [.inr (.inl [40]), .inl (.ofNat 2, .ofNat 2), .inl fr, .inl fr, .inl fr], [24, 40], false, [([(.ofNat 2, .ofNat 2), fr, fr, fr], .inr (.inr 9), [])], [])
def cg_X0_search_6 : List (Nat × AK) := [(55, ck_X2_shadow_0), (59, ck_X0_grownBehind_0), (51, ck_X0_search_5)]
def ca_X0_search_6 : List (Nat × AA) := []
set_option maxRecDepth 100000 in
theorem cc_X0_search_6 : aChk QPl CF ck_X0_search_6 cg_X0_search_6 xxX0 mX0_search tX0_search ca_X0_search_6 [] 1 = true := by decide +kernel
theorem cx_X0_search_6 : ctsO QQ CF xxX0 cg_X0_search_6 := ctsO_cons rfl ct_X2_shadow_0 (ctsO_cons rfl ct_X0_grownBehind_0 (ctsO_cons rfl ct_X0_search_5 (ctsO_nil)))
theorem ct_X0_search_6 : ctrO QQ CF ck_X0_search_6 mX0_search := chk_ok (Q := QQ) (QP := QPl) (C := CF) (c := ck_X0_search_6) (G := cg_X0_search_6) (X := xxX0) (M := mX0_search) (t := tX0_search) (anns := ca_X0_search_6) 1 xx0 pl0 rfl kX0_search qq_ok cx_X0_search_6 cc_X0_search_6
def ck_X0_search_7 : AK := (10, [.inr (.inl [40]), .inl (.ofNat 1, .ofNat 1), .inl fr, .inl fr, .inl fr], [24, 40], false, [([(.ofNat 1, .ofNat 1), fr, fr, fr], .inr (.inr 9), [])], [])
def cg_X0_search_7 : List (Nat × AK) := [(55, ck_X2_shadow_0), (59, ck_X0_grownBehind_0), (51, ck_X0_search_6)]
def ca_X0_search_7 : List (Nat × AA) := []
set_option maxRecDepth 100000 in
theorem cc_X0_search_7 : aChk QPl CF ck_X0_search_7 cg_X0_search_7 xxX0 mX0_search tX0_search ca_X0_search_7 [] 1 = true := by decide +kernel
theorem cx_X0_search_7 : ctsO QQ CF xxX0 cg_X0_search_7 := ctsO_cons rfl ct_X2_shadow_0 (ctsO_cons rfl ct_X0_grownBehind_0 (ctsO_cons rfl ct_X0_search_6 (ctsO_nil)))
theorem ct_X0_search_7 : ctrO QQ CF ck_X0_search_7 mX0_search := chk_ok (Q := QQ) (QP := QPl) (C := CF) (c := ck_X0_search_7) (G := cg_X0_search_7) (X := xxX0) (M := mX0_search) (t := tX0_search) (anns := ca_X0_search_7) 1 xx0 pl0 rfl kX0_search qq_ok cx_X0_search_7 cc_X0_search_7
def ck_X0_search_8 : AK := (11, [.inr (.inl [40]), .inl (.ofNat 0, .ofNat 0), .inl fr, .inl fr, .inl fr], [24, 40], false, [([(.ofNat 0, .ofNat 0), fr, fr, fr], .inr (.inr 9), [])], [])
def cg_X0_search_8 : List (Nat × AK) := [(55, ck_X2_shadow_0), (59, ck_X0_grownBehind_0), (51, ck_X0_search_7)]
def ca_X0_search_8 : List (Nat × AA) := []
set_option maxRecDepth 100000 in
theorem cc_X0_search_8 : aChk QPl CF ck_X0_search_8 cg_X0_search_8 xxX0 mX0_search tX0_search ca_X0_search_8 [] 1 = true := by decide +kernel
theorem cx_X0_search_8 : ctsO QQ CF xxX0 cg_X0_search_8 := ctsO_cons rfl ct_X2_shadow_0 (ctsO_cons rfl ct_X0_grownBehind_0 (ctsO_cons rfl ct_X0_search_7 (ctsO_nil)))
theorem ct_X0_search_8 : ctrO QQ CF ck_X0_search_8 mX0_search := chk_ok (Q := QQ) (QP := QPl) (C := CF) (c := ck_X0_search_8) (G := cg_X0_search_8) (X := xxX0) (M := mX0_search) (t := tX0_search) (anns := ca_X0_search_8) 1 xx0 pl0 rfl kX0_search qq_ok cx_X0_search_8 cc_X0_search_8
def ck_X0_start_0 : AK := (12, [.inr (.inl [40]), .inl fr, .inl fr, .inl fr, .inr (.inl [27])], [24, 40], false, [([fr, fr, fr], .inr (.inr 9), [])], [])
def cg_X0_start_0 : List (Nat × AK) := [(45, ck_X9_hasThing_0), (51, ck_X0_search_8)]
def ca_X0_start_0 : List (Nat × AA) := []
set_option maxRecDepth 100000 in
theorem cc_X0_start_0 : aChk QPl CF ck_X0_start_0 cg_X0_start_0 xxX0 mX0_start tX0_start ca_X0_start_0 [] 1 = true := by decide +kernel
theorem cx_X0_start_0 : ctsO QQ CF xxX0 cg_X0_start_0 := ctsO_cons rfl ct_X9_hasThing_0 (ctsO_cons rfl ct_X0_search_8 (ctsO_nil))
theorem ct_X0_start_0 : ctrO QQ CF ck_X0_start_0 mX0_start := chk_ok (Q := QQ) (QP := QPl) (C := CF) (c := ck_X0_start_0) (G := cg_X0_start_0) (X := xxX0) (M := mX0_start) (t := tX0_start) (anns := ca_X0_start_0) 1 xx0 pl0 rfl kX0_start qq_ok cx_X0_start_0 cc_X0_start_0
def ck_X11_over_0 : AK := (13, [.inr (.inl [0]), .inl fr, .inl fr, .inl fr, .inl fr], [24, 40], false, [([(.ofNat 0, .ofNat 7), (.ofNat 1, .ofNat 8), (.ofNat 0, .ofNat 9), (.ofNat 0, .ofNat 1)], .inl fr, []), ([fr, fr, fr, fr], .inl (.negSucc 0, .negSucc 0), [])], [])
def cg_X11_over_0 : List (Nat × AK) := [(265, ck_X9_hasThing_0), (120, ck_X11_within_16), (120, ck_X11_within_17), (120, ck_X11_within_18), (326, ck_X0_start_0)]
def ca_X11_over_0 : List (Nat × AA) := []
set_option maxRecDepth 100000 in
theorem cc_X11_over_0 : aChk QPl CF ck_X11_over_0 cg_X11_over_0 xxX11 mX11_over tX11_over ca_X11_over_0 [] 1 = true := by decide +kernel
theorem cx_X11_over_0 : ctsO QQ CF xxX11 cg_X11_over_0 := ctsO_cons rfl ct_X9_hasThing_0 (ctsO_cons rfl ct_X11_within_16 (ctsO_cons rfl ct_X11_within_17 (ctsO_cons rfl ct_X11_within_18 (ctsO_cons rfl ct_X0_start_0 (ctsO_nil)))))
theorem ct_X11_over_0 : ctrO QQ CF ck_X11_over_0 mX11_over := chk_ok (Q := QQ) (QP := QPl) (C := CF) (c := ck_X11_over_0) (G := cg_X11_over_0) (X := xxX11) (M := mX11_over) (t := tX11_over) (anns := ca_X11_over_0) 1 xx11 pl11 rfl kX11_over qq_ok cx_X11_over_0 cc_X11_over_0
def ck_X11_hoursOf_0 : AK := (3, [.inr (.inl [0]), .inl fr, .inl fr, .inl fr], [24], false, [([fr, fr, fr], .inl fr, [])], [])
def cg_X11_hoursOf_0 : List (Nat × AK) := [(336, ck_X2_shadow_0)]
def ca_X11_hoursOf_0 : List (Nat × AA) := [(6, [(.ofNat 0, .ofNat 0), fr, fr, fr, fr, (.ofNat 0, .ofNat 10)], [.inr (.inl [0]), .inl (1, .ofNat 0), .inl (2, .ofNat 0), .inl (3, .ofNat 0), .inl (4, .ofNat 0), .inl (5, .ofNat 0)], [], [], [(0, 4, 0), (0, 5, 0)], (.ofNat 10, [.ofNat 0, .ofNat 0, .ofNat 0, .ofNat 0, .ofNat 0, .negSucc 0]))]
set_option maxRecDepth 100000 in
theorem cc_X11_hoursOf_0 : aChk QPl CF ck_X11_hoursOf_0 cg_X11_hoursOf_0 xxX11 mX11_hoursOf tX11_hoursOf ca_X11_hoursOf_0 [] 11 = true := by decide +kernel
theorem cx_X11_hoursOf_0 : ctsO QQ CF xxX11 cg_X11_hoursOf_0 := ctsO_cons rfl ct_X2_shadow_0 (ctsO_nil)
theorem ct_X11_hoursOf_0 : ctrO QQ CF ck_X11_hoursOf_0 mX11_hoursOf := chk_ok (Q := QQ) (QP := QPl) (C := CF) (c := ck_X11_hoursOf_0) (G := cg_X11_hoursOf_0) (X := xxX11) (M := mX11_hoursOf) (t := tX11_hoursOf) (anns := ca_X11_hoursOf_0) 11 xx11 pl11 rfl kX11_hoursOf qq_ok cx_X11_hoursOf_0 cc_X11_hoursOf_0
def ck_X11_whose_0 : AK := (4, [.inr (.inl [0]), .inl fr, .inl fr, .inl fr], [24], false, [([fr, fr, fr], .inl (.negSucc 0, .negSucc 0), []), ([(.ofNat 0, .ofNat 5), (.ofNat 1, .ofNat 999), (.ofNat 0, .ofNat 999)], .inl fr, [])], [])
def cg_X11_whose_0 : List (Nat × AK) := [(120, ck_X11_within_1), (120, ck_X11_within_3), (120, ck_X11_within_12), (333, ck_X11_hoursOf_0)]
def ca_X11_whose_0 : List (Nat × AA) := [(39, [(.ofNat 0, .ofNat 0), (.ofNat 0, .ofNat 5), (.ofNat 1, .ofNat 999), (.ofNat 0, .ofNat 999), fr, (.ofNat 0, .ofNat 8)], [.inr (.inl [0]), .inl (1, .ofNat 0), .inl (2, .ofNat 0), .inl (3, .ofNat 0), .inl (4, .ofNat 0), .inl (5, .ofNat 0)], [], [], [(0, 4, 0), (0, 5, 0)], (.ofNat 8, [.ofNat 0, .ofNat 0, .ofNat 0, .ofNat 0, .ofNat 0, .negSucc 0]))]
set_option maxRecDepth 100000 in
theorem cc_X11_whose_0 : aChk QPl CF ck_X11_whose_0 cg_X11_whose_0 xxX11 mX11_whose tX11_whose ca_X11_whose_0 [] 9 = true := by decide +kernel
theorem cx_X11_whose_0 : ctsO QQ CF xxX11 cg_X11_whose_0 := ctsO_cons rfl ct_X11_within_1 (ctsO_cons rfl ct_X11_within_3 (ctsO_cons rfl ct_X11_within_12 (ctsO_cons rfl ct_X11_hoursOf_0 (ctsO_nil))))
theorem ct_X11_whose_0 : ctrO QQ CF ck_X11_whose_0 mX11_whose := chk_ok (Q := QQ) (QP := QPl) (C := CF) (c := ck_X11_whose_0) (G := cg_X11_whose_0) (X := xxX11) (M := mX11_whose) (t := tX11_whose) (anns := ca_X11_whose_0) 9 xx11 pl11 rfl kX11_whose qq_ok cx_X11_whose_0 cc_X11_whose_0
def ck_X11_at_0 : AK := (4, [.inr (.inl [0]), .inl fr, .inl fr, .inl fr], [24], false, [([(.ofNat 0, .ofNat 7), (.ofNat 1, .ofNat 999), (.ofNat 0, .ofNat 999)], .inl fr, []), ([fr, fr, fr], .inl (.negSucc 0, .negSucc 0), [])], [])
def cg_X11_at_0 : List (Nat × AK) := [(265, ck_X9_hasThing_0), (120, ck_X11_within_3), (120, ck_X11_within_12), (333, ck_X11_hoursOf_0)]
def ca_X11_at_0 : List (Nat × AA) := []
set_option maxRecDepth 100000 in
theorem cc_X11_at_0 : aChk QPl CF ck_X11_at_0 cg_X11_at_0 xxX11 mX11_at tX11_at ca_X11_at_0 [] 1 = true := by decide +kernel
theorem cx_X11_at_0 : ctsO QQ CF xxX11 cg_X11_at_0 := ctsO_cons rfl ct_X9_hasThing_0 (ctsO_cons rfl ct_X11_within_3 (ctsO_cons rfl ct_X11_within_12 (ctsO_cons rfl ct_X11_hoursOf_0 (ctsO_nil))))
theorem ct_X11_at_0 : ctrO QQ CF ck_X11_at_0 mX11_at := chk_ok (Q := QQ) (QP := QPl) (C := CF) (c := ck_X11_at_0) (G := cg_X11_at_0) (X := xxX11) (M := mX11_at) (t := tX11_at) (anns := ca_X11_at_0) 1 xx11 pl11 rfl kX11_at qq_ok cx_X11_at_0 cc_X11_at_0
def ck_J6_bitCount_0f7a4_0 : AK := (1, [.inl fr], [], false, [([fr], .inl (.ofNat 0, .ofNat 63), [])], [])
def cg_J6_bitCount_0f7a4_0 : List (Nat × AK) := []
def ca_J6_bitCount_0f7a4_0 : List (Nat × AA) := []
set_option maxRecDepth 100000 in
theorem cc_J6_bitCount_0f7a4_0 : aChk QPl CF ck_J6_bitCount_0f7a4_0 cg_J6_bitCount_0f7a4_0 xxJ6 mJ6_bitCount_0f7a4 tJ6_bitCount_0f7a4 ca_J6_bitCount_0f7a4_0 [] 1 = true := by decide +kernel
theorem cx_J6_bitCount_0f7a4_0 : ctsO QQ CF xxJ6 cg_J6_bitCount_0f7a4_0 := ctsO_nil
theorem ct_J6_bitCount_0f7a4_0 : ctrO QQ CF ck_J6_bitCount_0f7a4_0 mJ6_bitCount_0f7a4 := chk_ok (Q := QQ) (QP := QPl) (C := CF) (c := ck_J6_bitCount_0f7a4_0) (G := cg_J6_bitCount_0f7a4_0) (X := xxJ6) (M := mJ6_bitCount_0f7a4) (t := tJ6_bitCount_0f7a4) (anns := ca_J6_bitCount_0f7a4_0) 1 xxj6 plJ6 rfl kJ6_bitCount_0f7a4 qq_ok cx_J6_bitCount_0f7a4_0 cc_J6_bitCount_0f7a4_0
def ck_X10_shadowsOf_0 : AK := (4, [.inr (.inl [26]), .inl fr], [24], false, [([fr], .inl fr, [])], [])
def cg_X10_shadowsOf_0 : List (Nat × AK) := [(99, ck_X10_shadowOf_0)]
def ca_X10_shadowsOf_0 : List (Nat × AA) := [(4, [(.ofNat 0, .ofNat 0), fr, fr, (.ofNat 0, .ofNat 8)], [.inr (.inl [26]), .inl (1, .ofNat 0), .inl (2, .ofNat 0), .inl (3, .ofNat 0)], [], [], [(0, 2, 0), (0, 3, 0)], (.ofNat 8, [.ofNat 0, .ofNat 0, .ofNat 0, .negSucc 0]))]
set_option maxRecDepth 100000 in
theorem cc_X10_shadowsOf_0 : aChk QPl CF ck_X10_shadowsOf_0 cg_X10_shadowsOf_0 xxX10 mX10_shadowsOf tX10_shadowsOf ca_X10_shadowsOf_0 [] 9 = true := by decide +kernel
theorem cx_X10_shadowsOf_0 : ctsO QQ CF xxX10 cg_X10_shadowsOf_0 := ctsO_cons rfl ct_X10_shadowOf_0 (ctsO_nil)
theorem ct_X10_shadowsOf_0 : ctrO QQ CF ck_X10_shadowsOf_0 mX10_shadowsOf := chk_ok (Q := QQ) (QP := QPl) (C := CF) (c := ck_X10_shadowsOf_0) (G := cg_X10_shadowsOf_0) (X := xxX10) (M := mX10_shadowsOf) (t := tX10_shadowsOf) (anns := ca_X10_shadowsOf_0) 9 xx10 pl10 rfl kX10_shadowsOf qq_ok cx_X10_shadowsOf_0 cc_X10_shadowsOf_0
def ck_X11_leave_0 : AK := (5, [.inr (.inl [0]), .inl fr, .inl fr, .inl fr, .inl fr], [24], false, [([fr, fr, fr, fr], .inl (.negSucc 0, .negSucc 0), []), ([(.ofNat 0, .ofNat 9999), (.ofNat 0, .ofNat 9999), (.ofNat 0, .ofNat 9999), (.ofNat 0, .ofNat 9999)], .inl (.ofNat 1, .ofNat 15), [])], [])
def cg_X11_leave_0 : List (Nat × AK) := [(120, ck_X11_within_5), (340, ck_J6_bitCount_0f7a4_0), (345, ck_X10_shadowsOf_0)]
def ca_X11_leave_0 : List (Nat × AA) := [(50, [(.ofNat 0, .ofNat 0), (.ofNat 0, .ofNat 9999), (.ofNat 0, .ofNat 9999), (.ofNat 0, .ofNat 9999), (.ofNat 0, .ofNat 9999), (.ofNat 1, .ofNat 16)], [.inr (.inl [0]), .inl (1, .ofNat 0), .inl (2, .ofNat 0), .inl (3, .ofNat 0), .inl (4, .ofNat 0), .inl (5, .ofNat 0), .inr (.inr 0)], [], [], [(0, 5, 0)], (.ofNat 16, [.ofNat 0, .ofNat 0, .ofNat 0, .ofNat 0, .ofNat 0, .negSucc 0]))]
set_option maxRecDepth 100000 in
theorem cc_X11_leave_0 : aChk QPl CF ck_X11_leave_0 cg_X11_leave_0 xxX11 mX11_leave tX11_leave ca_X11_leave_0 [] 16 = true := by decide +kernel
theorem cx_X11_leave_0 : ctsO QQ CF xxX11 cg_X11_leave_0 := ctsO_cons rfl ct_X11_within_5 (ctsO_cons rfl ct_J6_bitCount_0f7a4_0 (ctsO_cons rfl ct_X10_shadowsOf_0 (ctsO_nil)))
theorem ct_X11_leave_0 : ctrO QQ CF ck_X11_leave_0 mX11_leave := chk_ok (Q := QQ) (QP := QPl) (C := CF) (c := ck_X11_leave_0) (G := cg_X11_leave_0) (X := xxX11) (M := mX11_leave) (t := tX11_leave) (anns := ca_X11_leave_0) 16 xx11 pl11 rfl kX11_leave qq_ok cx_X11_leave_0 cc_X11_leave_0
def ck_X11_within_19 : AK := (1, [.inl fr, .inl (.ofNat 1, .ofNat 1), .inl (.ofNat 4095, .ofNat 4095)], [], false, [([(.ofNat 1, .ofNat 4095), (.ofNat 1, .ofNat 1), (.ofNat 4095, .ofNat 4095)], .inl (.ofNat 1, .ofNat 1), []), ([fr, (.ofNat 1, .ofNat 1), (.ofNat 4095, .ofNat 4095)], .inl (.ofNat 0, .ofNat 0), [])], [])
def cg_X11_within_19 : List (Nat × AK) := []
def ca_X11_within_19 : List (Nat × AA) := []
set_option maxRecDepth 100000 in
theorem cc_X11_within_19 : aChk QPl CF ck_X11_within_19 cg_X11_within_19 xxX11 mX11_within tX11_within ca_X11_within_19 [] 1 = true := by decide +kernel
theorem cx_X11_within_19 : ctsO QQ CF xxX11 cg_X11_within_19 := ctsO_nil
theorem ct_X11_within_19 : ctrO QQ CF ck_X11_within_19 mX11_within := chk_ok (Q := QQ) (QP := QPl) (C := CF) (c := ck_X11_within_19) (G := cg_X11_within_19) (X := xxX11) (M := mX11_within) (t := tX11_within) (anns := ca_X11_within_19) 1 xx11 pl11 rfl kX11_within qq_ok cx_X11_within_19 cc_X11_within_19
def ck_X4_search_0 : AK := (1, [.inr (.inl [41]), .inl (.ofNat 6, .ofNat 6), .inl fr], [41, 46], false, [([(.ofNat 6, .ofNat 6), fr], .inr (.inr 9), [])], [])
def cg_X4_search_0 : List (Nat × AK) := []
def ca_X4_search_0 : List (Nat × AA) := []
set_option maxRecDepth 100000 in
theorem cc_X4_search_0 : aChk QPl CF ck_X4_search_0 cg_X4_search_0 xxX4 mX4_search tX4_search ca_X4_search_0 [] 1 = true := by decide +kernel
theorem cx_X4_search_0 : ctsO QQ CF xxX4 cg_X4_search_0 := ctsO_nil
theorem ct_X4_search_0 : ctrO QQ CF ck_X4_search_0 mX4_search := chk_ok (Q := QQ) (QP := QPl) (C := CF) (c := ck_X4_search_0) (G := cg_X4_search_0) (X := xxX4) (M := mX4_search) (t := tX4_search) (anns := ca_X4_search_0) 1 xx4 pl4 rfl kX4_search qq_ok cx_X4_search_0 cc_X4_search_0
def ck_X4_search_1 : AK := (2, [.inr (.inl [41]), .inl (.ofNat 5, .ofNat 5), .inl fr], [41, 43, 44, 45, 46], false, [([(.ofNat 5, .ofNat 5), fr], .inr (.inr 9), [])], [])
def cg_X4_search_1 : List (Nat × AK) := [(48, ck_X10_hasBale_0), (38, ck_X4_search_0)]
def ca_X4_search_1 : List (Nat × AA) := [(106, [(.ofNat 0, .ofNat 0), (.ofNat 5, .ofNat 5), fr, (.ofNat 0, .ofNat 11), fr, fr, (.ofNat 0, .ofNat 4)], [.inr (.inl [41]), .inl (1, .ofNat 0), .inl (2, .ofNat 0), .inl (3, .ofNat 0), .inl (4, .ofNat 0), .inl (5, .ofNat 0), .inl (6, .ofNat 0), .inr (.inr 0)], [], [(42, 5, 3, .ofNat 0)], [(0, 3, 0), (0, 4, 0), (0, 5, 0), (0, 6, 0)], (.ofNat 4, [.ofNat 0, .ofNat 0, .ofNat 0, .ofNat 0, .ofNat 0, .ofNat 0, .negSucc 0]))]
set_option maxRecDepth 100000 in
theorem cc_X4_search_1 : aChk QPl CF ck_X4_search_1 cg_X4_search_1 xxX4 mX4_search tX4_search ca_X4_search_1 [] 5 = true := by decide +kernel
theorem cx_X4_search_1 : ctsO QQ CF xxX4 cg_X4_search_1 := ctsO_cons rfl ct_X10_hasBale_0 (ctsO_cons rfl ct_X4_search_0 (ctsO_nil))
theorem ct_X4_search_1 : ctrO QQ CF ck_X4_search_1 mX4_search := chk_ok (Q := QQ) (QP := QPl) (C := CF) (c := ck_X4_search_1) (G := cg_X4_search_1) (X := xxX4) (M := mX4_search) (t := tX4_search) (anns := ca_X4_search_1) 5 xx4 pl4 rfl kX4_search qq_ok cx_X4_search_1 cc_X4_search_1
def ck_X4_search_2 : AK := (3, [.inr (.inl [41]), .inl (.ofNat 4, .ofNat 4), .inl fr], [41, 43, 44, 45, 46], false, [([(.ofNat 4, .ofNat 4), fr], .inr (.inr 9), [])], [])
def cg_X4_search_2 : List (Nat × AK) := [(48, ck_X10_hasBale_0), (38, ck_X4_search_1)]
def ca_X4_search_2 : List (Nat × AA) := [(106, [(.ofNat 0, .ofNat 0), (.ofNat 4, .ofNat 4), fr, (.ofNat 0, .ofNat 11), fr, fr, (.ofNat 0, .ofNat 4)], [.inr (.inl [41]), .inl (1, .ofNat 0), .inl (2, .ofNat 0), .inl (3, .ofNat 0), .inl (4, .ofNat 0), .inl (5, .ofNat 0), .inl (6, .ofNat 0), .inr (.inr 0)], [], [(42, 4, 3, .ofNat 0)], [(0, 3, 0), (0, 4, 0), (0, 5, 0), (0, 6, 0)], (.ofNat 4, [.ofNat 0, .ofNat 0, .ofNat 0, .ofNat 0, .ofNat 0, .ofNat 0, .negSucc 0]))]
set_option maxRecDepth 100000 in
theorem cc_X4_search_2 : aChk QPl CF ck_X4_search_2 cg_X4_search_2 xxX4 mX4_search tX4_search ca_X4_search_2 [] 5 = true := by decide +kernel
theorem cx_X4_search_2 : ctsO QQ CF xxX4 cg_X4_search_2 := ctsO_cons rfl ct_X10_hasBale_0 (ctsO_cons rfl ct_X4_search_1 (ctsO_nil))
theorem ct_X4_search_2 : ctrO QQ CF ck_X4_search_2 mX4_search := chk_ok (Q := QQ) (QP := QPl) (C := CF) (c := ck_X4_search_2) (G := cg_X4_search_2) (X := xxX4) (M := mX4_search) (t := tX4_search) (anns := ca_X4_search_2) 5 xx4 pl4 rfl kX4_search qq_ok cx_X4_search_2 cc_X4_search_2
def ck_X4_search_3 : AK := (4, [.inr (.inl [41]), .inl (.ofNat 3, .ofNat 3), .inl fr], [41, 43, 44, 45, 46], false, [([(.ofNat 3, .ofNat 3), fr], .inr (.inr 9), [])], [])
def cg_X4_search_3 : List (Nat × AK) := [(48, ck_X10_hasBale_0), (38, ck_X4_search_2)]
def ca_X4_search_3 : List (Nat × AA) := [(106, [(.ofNat 0, .ofNat 0), (.ofNat 3, .ofNat 3), fr, (.ofNat 0, .ofNat 11), fr, fr, (.ofNat 0, .ofNat 4)], [.inr (.inl [41]), .inl (1, .ofNat 0), .inl (2, .ofNat 0), .inl (3, .ofNat 0), .inl (4, .ofNat 0), .inl (5, .ofNat 0), .inl (6, .ofNat 0), .inr (.inr 0)], [], [(42, 3, 3, .ofNat 0)], [(0, 3, 0), (0, 4, 0), (0, 5, 0), (0, 6, 0)], (.ofNat 4, [.ofNat 0, .ofNat 0, .ofNat 0, .ofNat 0, .ofNat 0, .ofNat 0, .negSucc 0]))]
set_option maxRecDepth 100000 in
theorem cc_X4_search_3 : aChk QPl CF ck_X4_search_3 cg_X4_search_3 xxX4 mX4_search tX4_search ca_X4_search_3 [] 5 = true := by decide +kernel
theorem cx_X4_search_3 : ctsO QQ CF xxX4 cg_X4_search_3 := ctsO_cons rfl ct_X10_hasBale_0 (ctsO_cons rfl ct_X4_search_2 (ctsO_nil))
theorem ct_X4_search_3 : ctrO QQ CF ck_X4_search_3 mX4_search := chk_ok (Q := QQ) (QP := QPl) (C := CF) (c := ck_X4_search_3) (G := cg_X4_search_3) (X := xxX4) (M := mX4_search) (t := tX4_search) (anns := ca_X4_search_3) 5 xx4 pl4 rfl kX4_search qq_ok cx_X4_search_3 cc_X4_search_3
def ck_X4_search_4 : AK := (5, [.inr (.inl [41]), .inl (.ofNat 2, .ofNat 2), .inl fr], [41, 43, 44, 45, 46], false, [([(.ofNat 2, .ofNat 2), fr], .inr (.inr 9), [])], [])
def cg_X4_search_4 : List (Nat × AK) := [(48, ck_X10_hasBale_0), (38, ck_X4_search_3)]
def ca_X4_search_4 : List (Nat × AA) := [(106, [(.ofNat 0, .ofNat 0), (.ofNat 2, .ofNat 2), fr, (.ofNat 0, .ofNat 11), fr, fr, (.ofNat 0, .ofNat 4)], [.inr (.inl [41]), .inl (1, .ofNat 0), .inl (2, .ofNat 0), .inl (3, .ofNat 0), .inl (4, .ofNat 0), .inl (5, .ofNat 0), .inl (6, .ofNat 0), .inr (.inr 0)], [], [(42, 2, 3, .ofNat 0)], [(0, 3, 0), (0, 4, 0), (0, 5, 0), (0, 6, 0)], (.ofNat 4, [.ofNat 0, .ofNat 0, .ofNat 0, .ofNat 0, .ofNat 0, .ofNat 0, .negSucc 0]))]
set_option maxRecDepth 100000 in
theorem cc_X4_search_4 : aChk QPl CF ck_X4_search_4 cg_X4_search_4 xxX4 mX4_search tX4_search ca_X4_search_4 [] 5 = true := by decide +kernel
theorem cx_X4_search_4 : ctsO QQ CF xxX4 cg_X4_search_4 := ctsO_cons rfl ct_X10_hasBale_0 (ctsO_cons rfl ct_X4_search_3 (ctsO_nil))
theorem ct_X4_search_4 : ctrO QQ CF ck_X4_search_4 mX4_search := chk_ok (Q := QQ) (QP := QPl) (C := CF) (c := ck_X4_search_4) (G := cg_X4_search_4) (X := xxX4) (M := mX4_search) (t := tX4_search) (anns := ca_X4_search_4) 5 xx4 pl4 rfl kX4_search qq_ok cx_X4_search_4 cc_X4_search_4
def ck_X4_search_5 : AK := (6, [.inr (.inl [41]), .inl (.ofNat 1, .ofNat 1), .inl fr], [41, 43, 44, 45, 46], false, [([(.ofNat 1, .ofNat 1), fr], .inr (.inr 9), [])], [])
def cg_X4_search_5 : List (Nat × AK) := [(48, ck_X10_hasBale_0), (38, ck_X4_search_4)]
def ca_X4_search_5 : List (Nat × AA) := [(106, [(.ofNat 0, .ofNat 0), (.ofNat 1, .ofNat 1), fr, (.ofNat 0, .ofNat 11), fr, fr, (.ofNat 0, .ofNat 4)], [.inr (.inl [41]), .inl (1, .ofNat 0), .inl (2, .ofNat 0), .inl (3, .ofNat 0), .inl (4, .ofNat 0), .inl (5, .ofNat 0), .inl (6, .ofNat 0), .inr (.inr 0)], [], [(42, 1, 3, .ofNat 0)], [(0, 3, 0), (0, 4, 0), (0, 5, 0), (0, 6, 0)], (.ofNat 4, [.ofNat 0, .ofNat 0, .ofNat 0, .ofNat 0, .ofNat 0, .ofNat 0, .negSucc 0]))]
set_option maxRecDepth 100000 in
theorem cc_X4_search_5 : aChk QPl CF ck_X4_search_5 cg_X4_search_5 xxX4 mX4_search tX4_search ca_X4_search_5 [] 5 = true := by decide +kernel
theorem cx_X4_search_5 : ctsO QQ CF xxX4 cg_X4_search_5 := ctsO_cons rfl ct_X10_hasBale_0 (ctsO_cons rfl ct_X4_search_4 (ctsO_nil))
theorem ct_X4_search_5 : ctrO QQ CF ck_X4_search_5 mX4_search := chk_ok (Q := QQ) (QP := QPl) (C := CF) (c := ck_X4_search_5) (G := cg_X4_search_5) (X := xxX4) (M := mX4_search) (t := tX4_search) (anns := ca_X4_search_5) 5 xx4 pl4 rfl kX4_search qq_ok cx_X4_search_5 cc_X4_search_5
def ck_X4_search_6 : AK := (7, [.inr (.inl [41]), .inl (.ofNat 0, .ofNat 0), .inl fr], [41, 43, 44, 45, 46], false, [([(.ofNat 0, .ofNat 0), fr], .inr (.inr 9), [])], [])
def cg_X4_search_6 : List (Nat × AK) := [(48, ck_X10_hasBale_0), (38, ck_X4_search_5)]
def ca_X4_search_6 : List (Nat × AA) := [(106, [(.ofNat 0, .ofNat 0), (.ofNat 0, .ofNat 0), fr, (.ofNat 0, .ofNat 11), fr, fr, (.ofNat 0, .ofNat 4)], [.inr (.inl [41]), .inl (1, .ofNat 0), .inl (2, .ofNat 0), .inl (3, .ofNat 0), .inl (4, .ofNat 0), .inl (5, .ofNat 0), .inl (6, .ofNat 0), .inr (.inr 0)], [], [(42, 0, 3, .ofNat 0)], [(0, 3, 0), (0, 4, 0), (0, 5, 0), (0, 6, 0)], (.ofNat 4, [.ofNat 0, .ofNat 0, .ofNat 0, .ofNat 0, .ofNat 0, .ofNat 0, .negSucc 0]))]
set_option maxRecDepth 100000 in
theorem cc_X4_search_6 : aChk QPl CF ck_X4_search_6 cg_X4_search_6 xxX4 mX4_search tX4_search ca_X4_search_6 [] 5 = true := by decide +kernel
theorem cx_X4_search_6 : ctsO QQ CF xxX4 cg_X4_search_6 := ctsO_cons rfl ct_X10_hasBale_0 (ctsO_cons rfl ct_X4_search_5 (ctsO_nil))
theorem ct_X4_search_6 : ctrO QQ CF ck_X4_search_6 mX4_search := chk_ok (Q := QQ) (QP := QPl) (C := CF) (c := ck_X4_search_6) (G := cg_X4_search_6) (X := xxX4) (M := mX4_search) (t := tX4_search) (anns := ca_X4_search_6) 5 xx4 pl4 rfl kX4_search qq_ok cx_X4_search_6 cc_X4_search_6
def ck_X4_start_0 : AK := (8, [.inr (.inl [41]), .inl fr], [41, 42, 43, 44, 45, 46], false, [([fr], .inl (.ofNat 1, .ofNat 1), []), ([fr], .inl (.ofNat 0, .ofNat 0), [])], [])
def cg_X4_start_0 : List (Nat × AK) := [(38, ck_X4_search_6)]
def ca_X4_start_0 : List (Nat × AA) := [(7, [(.ofNat 0, .ofNat 0), fr, (.ofNat 0, .ofNat 12), (.ofNat 0, .ofNat 6)], [.inr (.inl [41]), .inl (1, .ofNat 0), .inl (2, .ofNat 0)], [], [(41, 2, 3, .ofNat 0)], [(0, 2, 0), (2, 41, 2)], (.ofNat 17, [.ofNat 0, .ofNat 0, .negSucc 0, .ofNat 0])), (59, [(.ofNat 0, .ofNat 0), fr, (.ofNat 0, .ofNat 4), (.ofNat 0, .ofNat 6)], [.inr (.inl [41]), .inl (1, .ofNat 0), .inl (2, .ofNat 0)], [], [(41, 2, 3, .ofNat 0)], [(0, 2, 0), (2, 41, 2)], (.ofNat 4, [.ofNat 0, .ofNat 0, .negSucc 0, .ofNat 0]))]
set_option maxRecDepth 100000 in
theorem cc_X4_start_0 : aChk QPl CF ck_X4_start_0 cg_X4_start_0 xxX4 mX4_start tX4_start ca_X4_start_0 [] 18 = true := by decide +kernel
theorem cx_X4_start_0 : ctsO QQ CF xxX4 cg_X4_start_0 := ctsO_cons rfl ct_X4_search_6 (ctsO_nil)
theorem ct_X4_start_0 : ctrO QQ CF ck_X4_start_0 mX4_start := chk_ok (Q := QQ) (QP := QPl) (C := CF) (c := ck_X4_start_0) (G := cg_X4_start_0) (X := xxX4) (M := mX4_start) (t := tX4_start) (anns := ca_X4_start_0) 18 xx4 pl4 rfl kX4_start qq_ok cx_X4_start_0 cc_X4_start_0
def ck_X11_within_20 : AK := (1, [.inl fr, .inl (.negSucc 0, .negSucc 0), .inl (.negSucc 0, .ofNat 62)], [], false, [([(.negSucc 0, .ofNat 62), (.negSucc 0, .negSucc 0), (.negSucc 0, .ofNat 62)], .inl (.ofNat 1, .ofNat 1), []), ([fr, (.negSucc 0, .negSucc 0), (.negSucc 0, .ofNat 62)], .inl (.ofNat 0, .ofNat 0), [])], [])
def cg_X11_within_20 : List (Nat × AK) := []
def ca_X11_within_20 : List (Nat × AA) := []
set_option maxRecDepth 100000 in
theorem cc_X11_within_20 : aChk QPl CF ck_X11_within_20 cg_X11_within_20 xxX11 mX11_within tX11_within ca_X11_within_20 [] 1 = true := by decide +kernel
theorem cx_X11_within_20 : ctsO QQ CF xxX11 cg_X11_within_20 := ctsO_nil
theorem ct_X11_within_20 : ctrO QQ CF ck_X11_within_20 mX11_within := chk_ok (Q := QQ) (QP := QPl) (C := CF) (c := ck_X11_within_20) (G := cg_X11_within_20) (X := xxX11) (M := mX11_within) (t := tX11_within) (anns := ca_X11_within_20) 1 xx11 pl11 rfl kX11_within qq_ok cx_X11_within_20 cc_X11_within_20
def ck_X4_barnAt_0 : AK := (1, [.inr (.inl [41]), .inl fr], [], false, [([(.ofNat 0, .ofNat 5)], .inl fr, []), ([fr], .inl (.negSucc 0, .negSucc 0), [])], [])
def cg_X4_barnAt_0 : List (Nat × AK) := []
def ca_X4_barnAt_0 : List (Nat × AA) := []
set_option maxRecDepth 100000 in
theorem cc_X4_barnAt_0 : aChk QPl CF ck_X4_barnAt_0 cg_X4_barnAt_0 xxX4 mX4_barnAt tX4_barnAt ca_X4_barnAt_0 [] 1 = true := by decide +kernel
theorem cx_X4_barnAt_0 : ctsO QQ CF xxX4 cg_X4_barnAt_0 := ctsO_nil
theorem ct_X4_barnAt_0 : ctrO QQ CF ck_X4_barnAt_0 mX4_barnAt := chk_ok (Q := QQ) (QP := QPl) (C := CF) (c := ck_X4_barnAt_0) (G := cg_X4_barnAt_0) (X := xxX4) (M := mX4_barnAt) (t := tX4_barnAt) (anns := ca_X4_barnAt_0) 1 xx4 pl4 rfl kX4_barnAt qq_ok cx_X4_barnAt_0 cc_X4_barnAt_0
def ck_X11_packed_0 : AK := (9, [.inr (.inl [0]), .inl fr, .inl fr], [41, 42, 43, 44, 45, 46], false, [([fr, fr], .inl (.negSucc 0, .negSucc 0), []), ([(.ofNat 1, .ofNat 4095), (.negSucc 0, .ofNat 5)], .inl fr, [])], [])
def cg_X11_packed_0 : List (Nat × AK) := [(120, ck_X11_within_19), (340, ck_J6_bitCount_0f7a4_0), (292, ck_X10_hasBale_0), (348, ck_X4_start_0), (120, ck_X11_within_20), (351, ck_X4_barnAt_0)]
def ca_X11_packed_0 : List (Nat × AA) := [(24, [(.ofNat 0, .ofNat 0), (.ofNat 1, .ofNat 4095), fr, (.ofNat 0, .ofNat 12)], [.inr (.inl [0]), .inl (1, .ofNat 0), .inl (2, .ofNat 0), .inl (3, .ofNat 0)], [], [], [(0, 3, 0)], (.ofNat 12, [.ofNat 0, .ofNat 0, .ofNat 0, .negSucc 0]))]
set_option maxRecDepth 100000 in
theorem cc_X11_packed_0 : aChk QPl CF ck_X11_packed_0 cg_X11_packed_0 xxX11 mX11_packed tX11_packed ca_X11_packed_0 [] 13 = true := by decide +kernel
theorem cx_X11_packed_0 : ctsO QQ CF xxX11 cg_X11_packed_0 := ctsO_cons rfl ct_X11_within_19 (ctsO_cons rfl ct_J6_bitCount_0f7a4_0 (ctsO_cons rfl ct_X10_hasBale_0 (ctsO_cons rfl ct_X4_start_0 (ctsO_cons rfl ct_X11_within_20 (ctsO_cons rfl ct_X4_barnAt_0 (ctsO_nil))))))
theorem ct_X11_packed_0 : ctrO QQ CF ck_X11_packed_0 mX11_packed := chk_ok (Q := QQ) (QP := QPl) (C := CF) (c := ck_X11_packed_0) (G := cg_X11_packed_0) (X := xxX11) (M := mX11_packed) (t := tX11_packed) (anns := ca_X11_packed_0) 13 xx11 pl11 rfl kX11_packed qq_ok cx_X11_packed_0 cc_X11_packed_0
def ck_X10_sellsOf_1 : AK := (3, [.inr (.inl [28]), .inl fr], [24], false, [([fr], .inl (.ofNat 0, .ofNat 0), []), ([(.ofNat 0, .ofNat 11)], .inl fr, [])], [])
def cg_X10_sellsOf_1 : List (Nat × AK) := [(63, ck_X10_hasBale_1), (69, ck_X2_describe_0), (76, ck_X2_price_0)]
def ca_X10_sellsOf_1 : List (Nat × AA) := []
set_option maxRecDepth 100000 in
theorem cc_X10_sellsOf_1 : aChk QPl CF ck_X10_sellsOf_1 cg_X10_sellsOf_1 xxX10 mX10_sellsOf tX10_sellsOf ca_X10_sellsOf_1 [] 1 = true := by decide +kernel
theorem cx_X10_sellsOf_1 : ctsO QQ CF xxX10 cg_X10_sellsOf_1 := ctsO_cons rfl ct_X10_hasBale_1 (ctsO_cons rfl ct_X2_describe_0 (ctsO_cons rfl ct_X2_price_0 (ctsO_nil)))
theorem ct_X10_sellsOf_1 : ctrO QQ CF ck_X10_sellsOf_1 mX10_sellsOf := chk_ok (Q := QQ) (QP := QPl) (C := CF) (c := ck_X10_sellsOf_1) (G := cg_X10_sellsOf_1) (X := xxX10) (M := mX10_sellsOf) (t := tX10_sellsOf) (anns := ca_X10_sellsOf_1) 1 xx10 pl10 rfl kX10_sellsOf qq_ok cx_X10_sellsOf_1 cc_X10_sellsOf_1
def ck_X11_when_0 : AK := (5, [.inr (.inl [0]), .inl fr, .inl fr, .inl fr], [24, 29], false, [([fr, fr, fr], .inl (.negSucc 0, .negSucc 0), []), ([(.ofNat 0, .ofNat 11), (.ofNat 0, .ofNat 60), (.ofNat 0, .ofNat 1)], .inl (.ofNat 0, .ofNat 2147483647), []), ([(.ofNat 0, .ofNat 11), (.ofNat 0, .ofNat 60), (.ofNat 0, .ofNat 1)], .inl (.negSucc 0, .ofNat 2147483647), [])], [])
def cg_X11_when_0 : List (Nat × AK) := [(292, ck_X10_hasBale_0), (120, ck_X11_within_15), (120, ck_X11_within_18), (304, ck_X10_takeFrom_0), (292, ck_X10_hasBale_1), (298, ck_X10_sellsOf_1), (176, ck_X10_passHour_1)]
def ca_X11_when_0 : List (Nat × AA) := [(55, [(.ofNat 0, .ofNat 0), (.ofNat 0, .ofNat 11), (.ofNat 0, .ofNat 60), (.ofNat 0, .ofNat 1), (.negSucc 0, .ofNat 2147483647), (.negSucc 0, .ofNat 60), (.ofNat 0, .ofNat 63)], [.inr (.inl [0]), .inl (1, .ofNat 0), .inl (2, .ofNat 0), .inl (3, .ofNat 0), .inl (4, .ofNat 0), .inl (5, .ofNat 0), .inl (6, .ofNat 0), .inr (.inr 0)], [], [], [(0, 4, 0), (0, 5, 0), (0, 6, 0)], (.ofNat 63, [.ofNat 0, .ofNat 0, .ofNat 0, .ofNat 0, .ofNat 0, .ofNat 0, .negSucc 0]))]
set_option maxRecDepth 100000 in
theorem cc_X11_when_0 : aChk QPl CF ck_X11_when_0 cg_X11_when_0 xxX11 mX11_when tX11_when ca_X11_when_0 [] 64 = true := by decide +kernel
theorem cx_X11_when_0 : ctsO QQ CF xxX11 cg_X11_when_0 := ctsO_cons rfl ct_X10_hasBale_0 (ctsO_cons rfl ct_X11_within_15 (ctsO_cons rfl ct_X11_within_18 (ctsO_cons rfl ct_X10_takeFrom_0 (ctsO_cons rfl ct_X10_hasBale_1 (ctsO_cons rfl ct_X10_sellsOf_1 (ctsO_cons rfl ct_X10_passHour_1 (ctsO_nil)))))))
theorem ct_X11_when_0 : ctrO QQ CF ck_X11_when_0 mX11_when := chk_ok (Q := QQ) (QP := QPl) (C := CF) (c := ck_X11_when_0) (G := cg_X11_when_0) (X := xxX11) (M := mX11_when) (t := tX11_when) (anns := ca_X11_when_0) 64 xx11 pl11 rfl kX11_when qq_ok cx_X11_when_0 cc_X11_when_0
def ck_X11_within_21 : AK := (1, [.inl fr, .inl (.ofNat 1, .ofNat 1), .inl (.ofNat 9, .ofNat 9)], [], false, [([(.ofNat 1, .ofNat 9), (.ofNat 1, .ofNat 1), (.ofNat 9, .ofNat 9)], .inl (.ofNat 1, .ofNat 1), []), ([fr, (.ofNat 1, .ofNat 1), (.ofNat 9, .ofNat 9)], .inl (.ofNat 0, .ofNat 0), [])], [])
def cg_X11_within_21 : List (Nat × AK) := []
def ca_X11_within_21 : List (Nat × AA) := []
set_option maxRecDepth 100000 in
theorem cc_X11_within_21 : aChk QPl CF ck_X11_within_21 cg_X11_within_21 xxX11 mX11_within tX11_within ca_X11_within_21 [] 1 = true := by decide +kernel
theorem cx_X11_within_21 : ctsO QQ CF xxX11 cg_X11_within_21 := ctsO_nil
theorem ct_X11_within_21 : ctrO QQ CF ck_X11_within_21 mX11_within := chk_ok (Q := QQ) (QP := QPl) (C := CF) (c := ck_X11_within_21) (G := cg_X11_within_21) (X := xxX11) (M := mX11_within) (t := tX11_within) (anns := ca_X11_within_21) 1 xx11 pl11 rfl kX11_within qq_ok cx_X11_within_21 cc_X11_within_21
def ck_X11_hail_0 : AK := (2, [.inr (.inl [0]), .inl fr, .inl fr, .inl (.ofNat 0, .ofNat 1)], [], false, [([fr, fr, (.ofNat 0, .ofNat 1)], .inl (.negSucc 0, .negSucc 0), []), ([(.ofNat 1, .ofNat 9), (.ofNat 0, .ofNat 9), (.ofNat 0, .ofNat 1)], .inl fr, [])], [])
def cg_X11_hail_0 : List (Nat × AK) := [(120, ck_X11_within_21), (120, ck_X11_within_17)]
def ca_X11_hail_0 : List (Nat × AA) := [(31, [(.ofNat 0, .ofNat 0), (.ofNat 1, .ofNat 9), (.ofNat 0, .ofNat 9), (.ofNat 0, .ofNat 1), fr, fr, (.ofNat 0, .ofNat 9)], [.inr (.inl [0]), .inl (1, .ofNat 0), .inl (2, .ofNat 0), .inl (3, .ofNat 0), .inl (4, .ofNat 0), .inl (5, .ofNat 0), .inl (6, .ofNat 0), .inr (.inr 0), .inr (.inr 0)], [], [], [(0, 4, 0), (0, 5, 0), (0, 6, 0)], (.ofNat 30, [.ofNat 0, .ofNat 0, .ofNat 0, .ofNat 0, .ofNat 0, .ofNat 0, .negSucc 0])), (64, [(.ofNat 0, .ofNat 0), (.ofNat 1, .ofNat 9), (.ofNat 0, .ofNat 9), (.ofNat 0, .ofNat 1), fr, fr, fr, fr, (.ofNat 0, .ofNat 10)], [.inr (.inl [0]), .inl (1, .ofNat 0), .inl (2, .ofNat 0), .inl (3, .ofNat 0), .inl (4, .ofNat 0), .inl (5, .ofNat 0), .inl (6, .ofNat 0), .inl (7, .ofNat 0), .inl (8, .ofNat 0)], [], [], [(0, 4, 0), (0, 5, 0), (0, 6, 0), (0, 7, 0), (0, 8, 0)], (.ofNat 20, [.ofNat 0, .ofNat 0, .ofNat 0, .ofNat 0, .ofNat 0, .ofNat 0, .ofNat 0, .ofNat 0, .negSucc 0])), (115, [(.ofNat 0, .ofNat 0), (.ofNat 1, .ofNat 9), (.ofNat 0, .ofNat 9), (.ofNat 0, .ofNat 1), fr, fr, fr, fr, (.ofNat 0, .ofNat 9)], [.inr (.inl [0]), .inl (1, .ofNat 0), .inl (2, .ofNat 0), .inl (3, .ofNat 0), .inl (4, .ofNat 0), .inl (5, .ofNat 0), .inl (6, .ofNat 0), .inl (7, .ofNat 0), .inl (8, .ofNat 0)], [], [], [(0, 4, 0), (0, 5, 0), (0, 6, 0), (0, 7, 0), (0, 8, 0)], (.ofNat 9, [.ofNat 0, .ofNat 0, .ofNat 0, .ofNat 0, .ofNat 0, .ofNat 0, .ofNat 0, .ofNat 0, .negSucc 0]))]
set_option maxRecDepth 100000 in
theorem cc_X11_hail_0 : aChk QPl CF ck_X11_hail_0 cg_X11_hail_0 xxX11 mX11_hail tX11_hail ca_X11_hail_0 [] 31 = true := by decide +kernel
theorem cx_X11_hail_0 : ctsO QQ CF xxX11 cg_X11_hail_0 := ctsO_cons rfl ct_X11_within_21 (ctsO_cons rfl ct_X11_within_17 (ctsO_nil))
theorem ct_X11_hail_0 : ctrO QQ CF ck_X11_hail_0 mX11_hail := chk_ok (Q := QQ) (QP := QPl) (C := CF) (c := ck_X11_hail_0) (G := cg_X11_hail_0) (X := xxX11) (M := mX11_hail) (t := tX11_hail) (anns := ca_X11_hail_0) 31 xx11 pl11 rfl kX11_hail qq_ok cx_X11_hail_0 cc_X11_hail_0
def ck_X6_takeFrom_0 : AK := (1, [.inr (.inl [8]), .inr (.inl [2]), .inl (.ofNat 0, .ofNat 30), .inl (.ofNat 0, .ofNat 30)], [8, 9], false, [([(.ofNat 0, .ofNat 30), (.ofNat 0, .ofNat 30)], .inr (.inr 9), [])], [])
def cg_X6_takeFrom_0 : List (Nat × AK) := []
def ca_X6_takeFrom_0 : List (Nat × AA) := []
set_option maxRecDepth 100000 in
theorem cc_X6_takeFrom_0 : aChk QPl CF ck_X6_takeFrom_0 cg_X6_takeFrom_0 xxX6 mX6_takeFrom tX6_takeFrom ca_X6_takeFrom_0 [] 1 = true := by decide +kernel
theorem cx_X6_takeFrom_0 : ctsO QQ CF xxX6 cg_X6_takeFrom_0 := ctsO_nil
theorem ct_X6_takeFrom_0 : ctrO QQ CF ck_X6_takeFrom_0 mX6_takeFrom := chk_ok (Q := QQ) (QP := QPl) (C := CF) (c := ck_X6_takeFrom_0) (G := cg_X6_takeFrom_0) (X := xxX6) (M := mX6_takeFrom) (t := tX6_takeFrom) (anns := ca_X6_takeFrom_0) 1 xx6 pl6 rfl kX6_takeFrom qq_ok cx_X6_takeFrom_0 cc_X6_takeFrom_0
def ck_X1_keepWorld_0 : AK := (2, [.inr (.inl [6]), .inr (.inl [27]), .inr (.inl [1])], [7, 8, 9], false, [([], .inr (.inr 9), [])], [])
def cg_X1_keepWorld_0 : List (Nat × AK) := [(68, ck_X6_takeFrom_0)]
def ca_X1_keepWorld_0 : List (Nat × AA) := []
set_option maxRecDepth 100000 in
theorem cc_X1_keepWorld_0 : aChk QPl CF ck_X1_keepWorld_0 cg_X1_keepWorld_0 xxX1 mX1_keepWorld tX1_keepWorld ca_X1_keepWorld_0 [] 1 = true := by decide +kernel
theorem cx_X1_keepWorld_0 : ctsO QQ CF xxX1 cg_X1_keepWorld_0 := ctsO_cons rfl ct_X6_takeFrom_0 (ctsO_nil)
theorem ct_X1_keepWorld_0 : ctrO QQ CF ck_X1_keepWorld_0 mX1_keepWorld := chk_ok (Q := QQ) (QP := QPl) (C := CF) (c := ck_X1_keepWorld_0) (G := cg_X1_keepWorld_0) (X := xxX1) (M := mX1_keepWorld) (t := tX1_keepWorld) (anns := ca_X1_keepWorld_0) 1 xx1 pl1 rfl kX1_keepWorld qq_ok cx_X1_keepWorld_0 cc_X1_keepWorld_0
def ck_X1_keepTold_0 : AK := (1, [.inr (.inl [6]), .inl (.ofNat 0, .ofNat 8), .inl (.ofNat 0, .ofNat 4), .inl (.ofNat 0, .ofNat 4)], [6], false, [([(.ofNat 0, .ofNat 8), (.ofNat 0, .ofNat 4), (.ofNat 0, .ofNat 4)], .inr (.inr 9), [])], [])
def cg_X1_keepTold_0 : List (Nat × AK) := []
def ca_X1_keepTold_0 : List (Nat × AA) := []
set_option maxRecDepth 100000 in
theorem cc_X1_keepTold_0 : aChk QPl CF ck_X1_keepTold_0 cg_X1_keepTold_0 xxX1 mX1_keepTold tX1_keepTold ca_X1_keepTold_0 [] 1 = true := by decide +kernel
theorem cx_X1_keepTold_0 : ctsO QQ CF xxX1 cg_X1_keepTold_0 := ctsO_nil
theorem ct_X1_keepTold_0 : ctrO QQ CF ck_X1_keepTold_0 mX1_keepTold := chk_ok (Q := QQ) (QP := QPl) (C := CF) (c := ck_X1_keepTold_0) (G := cg_X1_keepTold_0) (X := xxX1) (M := mX1_keepTold) (t := tX1_keepTold) (anns := ca_X1_keepTold_0) 1 xx1 pl1 rfl kX1_keepTold qq_ok cx_X1_keepTold_0 cc_X1_keepTold_0
def ck_X1_keepTexts_0 : AK := (1, [.inr (.inl [6]), .inl (.ofNat 0, .ofNat 4), .inl (.negSucc 0, .ofNat 3)], [6], false, [([(.ofNat 0, .ofNat 4), (.negSucc 0, .ofNat 3)], .inr (.inr 9), [])], [])
def cg_X1_keepTexts_0 : List (Nat × AK) := []
def ca_X1_keepTexts_0 : List (Nat × AA) := []
set_option maxRecDepth 100000 in
theorem cc_X1_keepTexts_0 : aChk QPl CF ck_X1_keepTexts_0 cg_X1_keepTexts_0 xxX1 mX1_keepTexts tX1_keepTexts ca_X1_keepTexts_0 [] 1 = true := by decide +kernel
theorem cx_X1_keepTexts_0 : ctsO QQ CF xxX1 cg_X1_keepTexts_0 := ctsO_nil
theorem ct_X1_keepTexts_0 : ctrO QQ CF ck_X1_keepTexts_0 mX1_keepTexts := chk_ok (Q := QQ) (QP := QPl) (C := CF) (c := ck_X1_keepTexts_0) (G := cg_X1_keepTexts_0) (X := xxX1) (M := mX1_keepTexts) (t := tX1_keepTexts) (anns := ca_X1_keepTexts_0) 1 xx1 pl1 rfl kX1_keepTexts qq_ok cx_X1_keepTexts_0 cc_X1_keepTexts_0
def ck_X1_keepNeeds_0 : AK := (1, [.inr (.inl [6]), .inr (.inl [3]), .inr (.inl [4]), .inl (.ofNat 0, .ofNat 8)], [6, 10, 11], false, [([(.ofNat 0, .ofNat 8)], .inr (.inr 9), [])], [])
def cg_X1_keepNeeds_0 : List (Nat × AK) := []
def ca_X1_keepNeeds_0 : List (Nat × AA) := []
set_option maxRecDepth 100000 in
theorem cc_X1_keepNeeds_0 : aChk QPl CF ck_X1_keepNeeds_0 cg_X1_keepNeeds_0 xxX1 mX1_keepNeeds tX1_keepNeeds ca_X1_keepNeeds_0 [] 1 = true := by decide +kernel
theorem cx_X1_keepNeeds_0 : ctsO QQ CF xxX1 cg_X1_keepNeeds_0 := ctsO_nil
theorem ct_X1_keepNeeds_0 : ctrO QQ CF ck_X1_keepNeeds_0 mX1_keepNeeds := chk_ok (Q := QQ) (QP := QPl) (C := CF) (c := ck_X1_keepNeeds_0) (G := cg_X1_keepNeeds_0) (X := xxX1) (M := mX1_keepNeeds) (t := tX1_keepNeeds) (anns := ca_X1_keepNeeds_0) 1 xx1 pl1 rfl kX1_keepNeeds qq_ok cx_X1_keepNeeds_0 cc_X1_keepNeeds_0
def ck_X11_image_0 : AK := (3, [.inr (.inl [0])], [6, 7, 8, 9, 10, 11], false, [([], .inl fr, [])], [])
def cg_X11_image_0 : List (Nat × AK) := [(354, ck_X1_keepWorld_0), (358, ck_X1_keepTold_0), (361, ck_X1_keepTexts_0), (365, ck_X1_keepNeeds_0)]
def ca_X11_image_0 : List (Nat × AA) := []
set_option maxRecDepth 100000 in
theorem cc_X11_image_0 : aChk QPl CF ck_X11_image_0 cg_X11_image_0 xxX11 mX11_image tX11_image ca_X11_image_0 [] 1 = true := by decide +kernel
theorem cx_X11_image_0 : ctsO QQ CF xxX11 cg_X11_image_0 := ctsO_cons rfl ct_X1_keepWorld_0 (ctsO_cons rfl ct_X1_keepTold_0 (ctsO_cons rfl ct_X1_keepTexts_0 (ctsO_cons rfl ct_X1_keepNeeds_0 (ctsO_nil))))
theorem ct_X11_image_0 : ctrO QQ CF ck_X11_image_0 mX11_image := chk_ok (Q := QQ) (QP := QPl) (C := CF) (c := ck_X11_image_0) (G := cg_X11_image_0) (X := xxX11) (M := mX11_image) (t := tX11_image) (anns := ca_X11_image_0) 1 xx11 pl11 rfl kX11_image qq_ok cx_X11_image_0 cc_X11_image_0
def ck_X6_takeFrom_1 : AK := (1, [.inr (.inl [1]), .inr (.inl [9]), .inl (.ofNat 0, .ofNat 30), .inl (.ofNat 0, .ofNat 30)], [1, 2], false, [([(.ofNat 0, .ofNat 30), (.ofNat 0, .ofNat 30)], .inr (.inr 9), [])], [])
def cg_X6_takeFrom_1 : List (Nat × AK) := []
def ca_X6_takeFrom_1 : List (Nat × AA) := []
set_option maxRecDepth 100000 in
theorem cc_X6_takeFrom_1 : aChk QPl CF ck_X6_takeFrom_1 cg_X6_takeFrom_1 xxX6 mX6_takeFrom tX6_takeFrom ca_X6_takeFrom_1 [] 1 = true := by decide +kernel
theorem cx_X6_takeFrom_1 : ctsO QQ CF xxX6 cg_X6_takeFrom_1 := ctsO_nil
theorem ct_X6_takeFrom_1 : ctrO QQ CF ck_X6_takeFrom_1 mX6_takeFrom := chk_ok (Q := QQ) (QP := QPl) (C := CF) (c := ck_X6_takeFrom_1) (G := cg_X6_takeFrom_1) (X := xxX6) (M := mX6_takeFrom) (t := tX6_takeFrom) (anns := ca_X6_takeFrom_1) 1 xx6 pl6 rfl kX6_takeFrom qq_ok cx_X6_takeFrom_1 cc_X6_takeFrom_1
def ck_X1_giveWorld_0 : AK := (2, [.inr (.inl [6]), .inr (.inl [27]), .inr (.inl [1])], [1, 2, 27], false, [([], .inr (.inr 9), [])], [])
def cg_X1_giveWorld_0 : List (Nat × AK) := [(68, ck_X6_takeFrom_1)]
def ca_X1_giveWorld_0 : List (Nat × AA) := []
set_option maxRecDepth 100000 in
theorem cc_X1_giveWorld_0 : aChk QPl CF ck_X1_giveWorld_0 cg_X1_giveWorld_0 xxX1 mX1_giveWorld tX1_giveWorld ca_X1_giveWorld_0 [] 1 = true := by decide +kernel
theorem cx_X1_giveWorld_0 : ctsO QQ CF xxX1 cg_X1_giveWorld_0 := ctsO_cons rfl ct_X6_takeFrom_1 (ctsO_nil)
theorem ct_X1_giveWorld_0 : ctrO QQ CF ck_X1_giveWorld_0 mX1_giveWorld := chk_ok (Q := QQ) (QP := QPl) (C := CF) (c := ck_X1_giveWorld_0) (G := cg_X1_giveWorld_0) (X := xxX1) (M := mX1_giveWorld) (t := tX1_giveWorld) (anns := ca_X1_giveWorld_0) 1 xx1 pl1 rfl kX1_giveWorld qq_ok cx_X1_giveWorld_0 cc_X1_giveWorld_0
def ck_X1_giveNeeds_0 : AK := (1, [.inr (.inl [6]), .inr (.inl [3]), .inr (.inl [4])], [3, 4], false, [([], .inr (.inr 9), [])], [])
def cg_X1_giveNeeds_0 : List (Nat × AK) := []
def ca_X1_giveNeeds_0 : List (Nat × AA) := []
set_option maxRecDepth 100000 in
theorem cc_X1_giveNeeds_0 : aChk QPl CF ck_X1_giveNeeds_0 cg_X1_giveNeeds_0 xxX1 mX1_giveNeeds tX1_giveNeeds ca_X1_giveNeeds_0 [] 1 = true := by decide +kernel
theorem cx_X1_giveNeeds_0 : ctsO QQ CF xxX1 cg_X1_giveNeeds_0 := ctsO_nil
theorem ct_X1_giveNeeds_0 : ctrO QQ CF ck_X1_giveNeeds_0 mX1_giveNeeds := chk_ok (Q := QQ) (QP := QPl) (C := CF) (c := ck_X1_giveNeeds_0) (G := cg_X1_giveNeeds_0) (X := xxX1) (M := mX1_giveNeeds) (t := tX1_giveNeeds) (anns := ca_X1_giveNeeds_0) 1 xx1 pl1 rfl kX1_giveNeeds qq_ok cx_X1_giveNeeds_0 cc_X1_giveNeeds_0
def ck_X11_back_0 : AK := (3, [.inr (.inl [0])], [0, 1, 2, 3, 4, 12, 27], true, [([], .inl fr, [])], [])
def cg_X11_back_0 : List (Nat × AK) := [(369, ck_X1_giveWorld_0), (220, ck_X11_setRule_0), (378, ck_X1_giveNeeds_0)]
def ca_X11_back_0 : List (Nat × AA) := []
set_option maxRecDepth 100000 in
theorem cc_X11_back_0 : aChk QPl CF ck_X11_back_0 cg_X11_back_0 xxX11 mX11_back tX11_back ca_X11_back_0 [] 1 = true := by decide +kernel
theorem cx_X11_back_0 : ctsO QQ CF xxX11 cg_X11_back_0 := ctsO_cons rfl ct_X1_giveWorld_0 (ctsO_cons rfl ct_X11_setRule_0 (ctsO_cons rfl ct_X1_giveNeeds_0 (ctsO_nil)))
theorem ct_X11_back_0 : ctrO QQ CF ck_X11_back_0 mX11_back := chk_ok (Q := QQ) (QP := QPl) (C := CF) (c := ck_X11_back_0) (G := cg_X11_back_0) (X := xxX11) (M := mX11_back) (t := tX11_back) (anns := ca_X11_back_0) 1 xx11 pl11 rfl kX11_back qq_ok cx_X11_back_0 cc_X11_back_0
def ck_X11_about_0 : AK := (1, [.inr (.inl [0]), .inl fr], [], false, [([(.ofNat 0, .ofNat 12)], .inl (.ofNat 0, .ofNat 300), []), ([fr], .inl (.negSucc 1, .negSucc 1), []), ([(.ofNat 3, .ofNat 9)], .inl fr, [])], [])
def cg_X11_about_0 : List (Nat × AK) := []
def ca_X11_about_0 : List (Nat × AA) := []
set_option maxRecDepth 100000 in
theorem cc_X11_about_0 : aChk QPl CF ck_X11_about_0 cg_X11_about_0 xxX11 mX11_about tX11_about ca_X11_about_0 [] 1 = true := by decide +kernel
theorem cx_X11_about_0 : ctsO QQ CF xxX11 cg_X11_about_0 := ctsO_nil
theorem ct_X11_about_0 : ctrO QQ CF ck_X11_about_0 mX11_about := chk_ok (Q := QQ) (QP := QPl) (C := CF) (c := ck_X11_about_0) (G := cg_X11_about_0) (X := xxX11) (M := mX11_about) (t := tX11_about) (anns := ca_X11_about_0) 1 xx11 pl11 rfl kX11_about qq_ok cx_X11_about_0 cc_X11_about_0
