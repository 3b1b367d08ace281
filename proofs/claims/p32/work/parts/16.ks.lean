theorem vp_b {i : Int32} {n : Nat} (h : (!(decide (i < 0)) && Nat.blt i.toNatClampNeg n) = true) : vp_in i n := by
  simp only [Bool.and_eq_true, Bool.not_eq_true', decide_eq_false_iff_not, Nat.blt_eq] at h
  exact fun z => z.elim (fun y => h.1 y) (fun y => absurd h.2 (Nat.not_lt.mpr y))
theorem xt_two {c : ByteArray} {t : XT} {n m : Nat} (h1 : xtOK c ((t.drop 0).take n) = true) (h2 : xtOK c ((t.drop n).take m) = true) (hl : t.length ≤ n + m) : xtOK c t = true := by
  unfold xtOK at h1 h2 ⊢
  rw [← List.take_append_drop n t, List.all_append, Bool.and_eq_true]
  refine ⟨by simpa using h1, ?_⟩
  rw [List.take_of_length_le (by rw [List.length_drop]; omega)] at h2
  exact h2
theorem xt_three {c : ByteArray} {t : XT} {n m k : Nat} (h1 : xtOK c ((t.drop 0).take n) = true) (h2 : xtOK c ((t.drop n).take m) = true) (h3 : xtOK c ((t.drop (n + m)).take k) = true) (hl : t.length ≤ n + m + k) : xtOK c t = true := by
  unfold xtOK at h1 h2 h3 ⊢
  rw [← List.take_append_drop n t, List.all_append, Bool.and_eq_true]
  refine ⟨by simpa using h1, ?_⟩
  rw [← List.take_append_drop m (t.drop n), List.all_append, Bool.and_eq_true]
  refine ⟨h2, ?_⟩
  rw [List.drop_drop]
  rw [List.take_of_length_le (by rw [List.length_drop]; omega)] at h3
  exact h3
theorem pl0 : plainName xxX0.1 = true := by decide +kernel
theorem pl1 : plainName xxX1.1 = true := by decide +kernel
theorem pl2 : plainName xxX2.1 = true := by decide +kernel
theorem pl3 : plainName xxX3.1 = true := by decide +kernel
theorem pl4 : plainName xxX4.1 = true := by decide +kernel
theorem pl5 : plainName xxX5.1 = true := by decide +kernel
theorem pl6 : plainName xxX6.1 = true := by decide +kernel
theorem pl7 : plainName xxX7.1 = true := by decide +kernel
theorem pl8 : plainName xxX8.1 = true := by decide +kernel
theorem pl9 : plainName xxX9.1 = true := by decide +kernel
theorem pl10 : plainName xxX10.1 = true := by decide +kernel
theorem pl11 : plainName xxX11.1 = true := by decide +kernel
theorem pl12 : plainName xxX12.1 = true := by decide +kernel
theorem plJ6 : plainName xxJ6.1 = true := by decide +kernel
set_option maxRecDepth 100000 in
theorem kX2_run : xtOK cX2_run tX2_run = true := xt_three kX2_run_0 kX2_run_1 kX2_run_2 (by decide +kernel)
set_option maxRecDepth 100000 in
theorem kX4_search : xtOK cX4_search tX4_search = true := xt_two kX4_search_0 kX4_search_1 (by decide +kernel)
set_option maxRecDepth 100000 in
theorem kX10_passHour : xtOK cX10_passHour tX10_passHour = true := xt_two kX10_passHour_0 kX10_passHour_1 (by decide +kernel)
set_option maxRecDepth 100000 in
theorem kX11_init : xtOK cX11_init tX11_init = true := xt_two kX11_init_0 kX11_init_1 (by decide +kernel)
set_option maxRecDepth 100000 in
theorem kX12_init : xtOK cX12_init tX12_init = true := xt_two kX12_init_0 kX12_init_1 (by decide +kernel)
set_option maxRecDepth 100000 in
theorem kX12_wordOf : xtOK cX12_wordOf tX12_wordOf = true := xt_two kX12_wordOf_0 kX12_wordOf_1 (by decide +kernel)
set_option maxRecDepth 100000 in
theorem kX12_next : xtOK cX12_next tX12_next = true := xt_three kX12_next_0 kX12_next_1 kX12_next_2 (by decide +kernel)
set_option maxRecDepth 100000 in
theorem kX12_goesOn : xtOK cX12_goesOn tX12_goesOn = true := xt_two kX12_goesOn_0 kX12_goesOn_1 (by decide +kernel)
set_option maxRecDepth 100000 in
theorem kX12_doing : xtOK cX12_doing tX12_doing = true := xt_two kX12_doing_0 kX12_doing_1 (by decide +kernel)
set_option maxRecDepth 100000 in
theorem kX12_text : xtOK cX12_text tX12_text = true := xt_three kX12_text_0 kX12_text_1 kX12_text_2 (by decide +kernel)
set_option maxRecDepth 100000 in
theorem kX12_saysOf : xtOK cX12_saysOf tX12_saysOf = true := xt_two kX12_saysOf_0 kX12_saysOf_1 (by decide +kernel)
set_option maxRecDepth 100000 in
theorem kX12_played : xtOK cX12_played tX12_played = true := xt_two kX12_played_0 kX12_played_1 (by decide +kernel)
set_option maxRecDepth 100000 in
theorem kX12_packed : xtOK cX12_packed tX12_packed = true := xt_two kX12_packed_0 kX12_packed_1 (by decide +kernel)
theorem xrun_step {X : XX} {rt : Option FieldType} {ini al : Bool} {n0 mc ms : Nat} {sc : XS} {l : Launch} {d : Nat} {t : XT} {stop : List Nat} {Rp : XR} {n pc : Nat} {lc : List (Option Value)} {st : List Value} {sh : List XO} {I : XI} {J : XJ} {a b : Nat} (h : ∀ K : Nat → XP, (∀ pc lc st sh I J a b, xrun X rt ini al n0 mc ms sc l d t stop Rp n pc lc st sh I J a b → K pc lc st sh I J a b) → xrn X rt ini al n0 mc ms sc l d t stop Rp K pc lc st sh I J a b) : xrun X rt ini al n0 mc ms sc l d t stop Rp (n + 1) pc lc st sh I J a b := h _ (fun _ _ _ _ _ _ _ _ z => z)
/-- a method's contract; K: what holds at the stops -/
theorem xm_ofK {X : XX} {M : XM} {t : XT} {stop : List Nat} {ini : Bool} {l : Launch} {d mc ms : Nat} (n : Nat) {as : List Value} {sh : List XO} {I : XI} {J : XJ} {Rp : XR} (hX : xxP X) (hpl : plainName X.1 = true) (hcls : M.1.cls = X.1) (ht : xtOK M.2.1 t = true) (hini : ini = true → M.1.name = "<init>") (hlen : (xargs as).length ≤ M.2.2.1) (h : ∀ K : Nat → XP, (∀ pc lc st sh' I J a b, xrun X M.2.2.2 ini (!(Nat.beq mc 0)) sh.length mc ms none l d t stop Rp n pc lc st sh' I J a b → K pc lc st sh' I J a b) → xrn X M.2.2.2 ini (!(Nat.beq mc 0)) sh.length mc ms none l d t stop Rp K 0 (xpad M.2.2.1 (xargs as)) [] sh I J 0 0) : xm l (d + 1) mc ms M as sh I J Rp := xm_of (n := n + 1) hX hpl hcls ht hini hlen (xrun_step h)
