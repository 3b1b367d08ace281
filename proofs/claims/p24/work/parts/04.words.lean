-- ===== the tables' words, by their places =====
theorem xsel_eq : xsel = k2_sels lw_privs := rfl
def xlook (j : Nat) : Option Cond := xn (xtab (j / 1000)) (j % 1000)
theorem xtab_mem {g : Nat} {w : Cond} (h : w ∈ xtab g) : w ∈ lw_tbl := by
  have t1 : ∀ {w : Cond}, w ∈ tables_1 → w ∈ lw_tbl := fun h => List.mem_append_right _ h
  match g, h with
  | 0, h => exact List.mem_append_left _ (by rw [← xsel_eq]; exact h)
  | 1, h => exact t1 (List.mem_append_left _ h)
  | 2, h => exact t1 (List.mem_append_right _ (List.mem_append_left _ h))
  | 3, h => exact t1 (List.mem_append_right _ (List.mem_append_right _ (List.mem_append_left _ h)))
  | 4, h => exact t1 (List.mem_append_right _ (List.mem_append_right _ (List.mem_append_right _ (List.mem_append_left _ h))))
  | 5, h => exact t1 (List.mem_append_right _ (List.mem_append_right _ (List.mem_append_right _ (List.mem_append_right _ (List.mem_append_left _ h)))))
  | 6, h => exact t1 (List.mem_append_right _ (List.mem_append_right _ (List.mem_append_right _ (List.mem_append_right _ (List.mem_append_right _ (List.mem_append_left _ h))))))
  | 7, h => exact t1 (List.mem_append_right _ (List.mem_append_right _ (List.mem_append_right _ (List.mem_append_right _ (List.mem_append_right _ (List.mem_append_right _ (List.mem_append_left _ h)))))))
  | n + 8, h => exact t1 (List.mem_append_right _ (List.mem_append_right _ (List.mem_append_right _ (List.mem_append_right _ (List.mem_append_right _ (List.mem_append_right _ (List.mem_append_right _ h)))))))
theorem xlook_mem {j : Nat} {w : Cond} (h : xlook j = some w) : w ∈ lw_tbl := by
  unfold xlook at h
  rw [xn_eq] at h
  exact xtab_mem (List.mem_of_getElem? h)
theorem xlook_all : ∀ {ws : List Cond} {js : List Nat}, js.map xlook = ws.map some → ∀ w ∈ ws, w ∈ lw_tbl
  | [], _, _, w, hw => absurd hw List.not_mem_nil
  | v :: ws, [], h, w, hw => by simp at h
  | v :: ws, j :: js, h, w, hw => by
    simp only [List.map_cons, List.cons.injEq] at h
    rcases List.mem_cons.mp hw with e | e
    · subst e
      exact xlook_mem h.1
    · exact xlook_all h.2 w e
abbrev XX : Type := String × Nat × List (Nat × Nat × Nat × Nat) × List XCe × List (Nat × Int64 × Nat) × List (Nat × Int32 × Nat) × List (Nat × Nat × List Nat)
def xcn : Nat → String := fun i => match i with
  | 0 => RX0
  | 1 => RX1
  | 2 => RX2
  | 3 => RX3
  | 4 => RX4
  | 5 => RX5
  | 6 => RX6
  | 7 => RX7
  | 8 => RX8
  | 9 => RX9
  | 10 => RX10
  | 11 => RX11
  | 12 => RX12
  | 13 => RJ0
  | 14 => RJ1
  | 15 => RJ3
  | _ => RJ6
theorem xcn_ok (i : Nat) : xcn i ≠ "java/lang/invoke/MethodHandle" ∧ xcn i ≠ "java/lang/invoke/VarHandle" := by
  match i with
  | 0 => exact ⟨by decide +kernel, by decide +kernel⟩
  | 1 => exact ⟨by decide +kernel, by decide +kernel⟩
  | 2 => exact ⟨by decide +kernel, by decide +kernel⟩
  | 3 => exact ⟨by decide +kernel, by decide +kernel⟩
  | 4 => exact ⟨by decide +kernel, by decide +kernel⟩
  | 5 => exact ⟨by decide +kernel, by decide +kernel⟩
  | 6 => exact ⟨by decide +kernel, by decide +kernel⟩
  | 7 => exact ⟨by decide +kernel, by decide +kernel⟩
  | 8 => exact ⟨by decide +kernel, by decide +kernel⟩
  | 9 => exact ⟨by decide +kernel, by decide +kernel⟩
  | 10 => exact ⟨by decide +kernel, by decide +kernel⟩
  | 11 => exact ⟨by decide +kernel, by decide +kernel⟩
  | 12 => exact ⟨by decide +kernel, by decide +kernel⟩
  | 13 => exact ⟨by decide +kernel, by decide +kernel⟩
  | 14 => exact ⟨by decide +kernel, by decide +kernel⟩
  | 15 => exact ⟨by decide +kernel, by decide +kernel⟩
  | n + 16 => exact ⟨(by decide +kernel : RJ6 ≠ _), (by decide +kernel : RJ6 ≠ _)⟩
theorem xds_ok : ∀ q ∈ xds, (parseMethodDescriptor q.1).map (fun d => d.parameters.length) = some q.2 := by decide +kernel
def xfw (own : String) (e : Nat × Nat × Nat × Nat) : List Cond := match xn vwCl e.2.1 with
  | some q => [.fieldLink own e.1 (q.2.1 e.2.2.1).1 (q.2.1 e.2.2.1).2.1 (q.2.1 e.2.2.1).2.2.1]
  | none => []
def xfb (e : Nat × Nat × Nat × Nat) : Bool := match xn vwCl e.2.1 with
  | some q => Nat.blt e.2.2.1 q.2.2
  | none => false
def xnwd (own : String) (e : Nat × Nat × List Nat) : List Cond := match xn vwCl e.2.1 with
  | some q => [.classLink own e.1 q.1, .instantiable q.1 q.2.2, .initialized q.1]
  | none => []
def xcw (own : String) (e : XCe) : List Cond := match e.2.1 / 100 with
  | 0 => (match e.2.1 with
    | 5 => [.methodLink own e.1 Lib.Math.min.name, .static Lib.Math.min.name, .initialized "java/lang/Math", .code Lib.Math.min.name Lib.Math.min.code 2 (some .int)]
    | 6 => [.methodLink own e.1 Lib.Math.max.name, .static Lib.Math.max.name, .initialized "java/lang/Math", .code Lib.Math.max.name Lib.Math.max.code 2 (some .int)]
    | 7 => [.methodLink own e.1 Lib.Math.abs.name, .static Lib.Math.abs.name, .initialized "java/lang/Math", .code Lib.Math.abs.name Lib.Math.abs.code 1 (some .int)]
    | 8 => [.methodLink own e.1 Lib.MathLoose.min_long.x, .static Lib.MathLoose.min_long.x, .initialized "java/lang/Math", .code Lib.MathLoose.min_long.x Lib.MathLoose.min_long.code 4 (some .long)]
    | 9 => [.methodLink own e.1 Lib.MathLoose.max_long.x, .static Lib.MathLoose.max_long.x, .initialized "java/lang/Math", .code Lib.MathLoose.max_long.x Lib.MathLoose.max_long.code 4 (some .long)]
    | 10 => [.methodLink own e.1 arraycopyName, .native arraycopyName, .static arraycopyName, .initialized "java/lang/System"]
    | _ => [.methodLink own e.1 objectInit, .instanceMethod objectInit, .code objectInit ⟨#[0xb1]⟩ 1 none])
  | 2 => [.methodLink own e.1 e.2.2.1.1, .instanceMethod e.2.2.1.1, .initialized e.2.2.1.1.cls, .code e.2.2.1.1 e.2.2.1.2.1 e.2.2.1.2.2.1 e.2.2.1.2.2.2]
  | 3 => [.instanceMethod e.2.2.1.1, .initialized e.2.2.1.1.cls, .code e.2.2.1.1 e.2.2.1.2.1 e.2.2.1.2.2.1 e.2.2.1.2.2.2]
  | 4 => [.methodLink own e.1 e.2.2.1.1, .static e.2.2.1.1, .initialized e.2.2.1.1.cls, .code e.2.2.1.1 e.2.2.1.2.1 e.2.2.1.2.2.1 e.2.2.1.2.2.2]
  | _ => [.methodLink own e.1 e.2.2.1.1, .instanceMethod e.2.2.1.1, .selects e.2.2.1.1.cls e.2.2.1.1 e.2.2.1.1, .initialized e.2.2.1.1.cls, .code e.2.2.1.1 e.2.2.1.2.1 e.2.2.1.2.2.1 e.2.2.1.2.2.2]
/-- pairs of texts that are alike -/
def xcs2 (e : XCe) : List (String × String) := match e.2.1 / 100 with
  | 0 => []
  | 1 => [(e.2.2.1.1.cls, xcn (e.2.1 % 100)), (e.2.2.1.1.desc, ((xn xds e.2.2.2.1).getD ("", 0)).1)]
  | 4 => [(e.2.2.1.1.cls, xcn (e.2.1 % 100)), (e.2.2.1.1.desc, ((xn xds e.2.2.2.1).getD ("", 0)).1)]
  | _ => [(e.2.2.1.1.cls, xcn (e.2.1 % 100)), (e.2.2.1.1.desc, ((xn xds e.2.2.2.1).getD ("", 0)).1), (e.2.2.1.1.name, "<init>")]
def xcb (e : XCe) : Bool := match e.2.1 / 100 with
  | 0 => true
  | 1 => Nat.ble e.2.2.1.2.2.1 40 && Nat.blt e.2.2.2.1 xds.length && Nat.blt (e.2.1 % 100) 14
  | 4 => Nat.ble e.2.2.1.2.2.1 40 && Nat.blt e.2.2.2.1 xds.length
  | _ => Nat.ble e.2.2.1.2.2.1 40 && Nat.blt e.2.2.2.1 xds.length && e.2.2.1.2.2.2.isNone
def xcj (e : XCe) : List Nat := match e.2.1 / 100 with
  | 3 => e.2.2.2.2.2.tail
  | _ => e.2.2.2.2.2
def xcne (own : String) (e : XCe) : List (Option Cond × Option Cond) := match e.2.1 / 100 with
  | 3 => [(xn xnestL (e.2.2.2.2.2.headD 0), some (.methodLinkNest own e.1 e.2.2.1.1 "BaledShade"))]
  | _ => []
theorem xnest_in : ∀ w ∈ xnestL, w ∈ lw_tbl := xlook_all (js := xnestJ) rfl
def xwj (X : XX) : List (List Cond × List Nat) := X.2.2.1.map (fun e => (xfw X.1 e, [e.2.2.2])) ++ X.2.2.2.1.map (fun e => (xcw X.1 e, xcj e)) ++ X.2.2.2.2.1.map (fun e => ([.constantLong X.1 e.1 e.2.1], [e.2.2])) ++ X.2.2.2.2.2.1.map (fun e => ([.constant X.1 e.1 e.2.1], [e.2.2])) ++ X.2.2.2.2.2.2.map (fun e => (xnwd X.1 e, e.2.2))
/-- a class by its number -/
def xnm : Nat → String := fun i => match i with
  | 0 => RX0
  | 1 => RX1
  | 2 => RX2
  | 3 => RX3
  | 4 => RX4
  | 5 => RX5
  | 6 => RX6
  | 7 => RX7
  | 8 => RX8
  | 9 => RX9
  | 10 => RX10
  | 11 => RX11
  | 12 => RX12
  | 95 => RJ3
  | 96 => RJ1
  | 97 => RJ0
  | 98 => RJ6
  | _ => RL
def xxB (X : XX) : Bool := X.2.2.2.2.2.2.all (fun e => Nat.blt e.2.1 13) && X.2.2.1.all xfb && X.2.2.2.1.all xcb && (xwj X).all (fun q => q.1.all goodWord)
def xxP (X : XX) : Prop := xxB X = true ∧ (∀ q ∈ xwj X, ∀ w ∈ q.1, w ∈ lw_tbl) ∧ (∀ e ∈ X.2.2.2.1, ∀ q ∈ xcs2 e, q.1 = q.2) ∧ (∀ q, xn vwCl X.2.1 = some q → q.1 = X.1) ∧ (∀ e ∈ X.2.2.2.1, ∀ q ∈ xcne X.1 e, q.1 = q.2) ∧ X.1 = xnm X.2.1
theorem xxP_of {X : XX} (h1 : xxB X = true) (h2 : (xwj X).map (fun q => q.2.map xlook) = (xwj X).map (fun q => q.1.map some)) (h3 : (X.2.2.2.1.flatMap xcs2).map (fun q => q.1) = (X.2.2.2.1.flatMap xcs2).map (fun q => q.2)) (h4 : ∀ q, xn vwCl X.2.1 = some q → q.1 = X.1) (h5 : (X.2.2.2.1.flatMap (xcne X.1)).map (fun q => q.1) = (X.2.2.2.1.flatMap (xcne X.1)).map (fun q => q.2)) (h6 : X.1 = xnm X.2.1) : xxP X :=
  ⟨h1, fun q hq => xlook_all (List.map_inj_left.mp h2 q hq), fun e he q hq => List.map_inj_left.mp h3 q (List.mem_flatMap.mpr ⟨e, he, hq⟩), h4, fun e he q hq => List.map_inj_left.mp h5 q (List.mem_flatMap.mpr ⟨e, he, hq⟩), h6⟩
def xxX0 : XX := (RX0, 0, ftX0, ctX0, ktX0, itX0, ntX0)
def xxX1 : XX := (RX1, 1, ftX1, ctX1, ktX1, itX1, ntX1)
def xxX2 : XX := (RX2, 2, ftX2, ctX2, ktX2, itX2, ntX2)
def xxX3 : XX := (RX3, 3, ftX3, ctX3, ktX3, itX3, ntX3)
def xxX4 : XX := (RX4, 4, ftX4, ctX4, ktX4, itX4, ntX4)
def xxX5 : XX := (RX5, 5, ftX5, ctX5, ktX5, itX5, ntX5)
def xxX6 : XX := (RX6, 6, ftX6, ctX6, ktX6, itX6, ntX6)
def xxX7 : XX := (RX7, 7, ftX7, ctX7, ktX7, itX7, ntX7)
def xxX8 : XX := (RX8, 8, ftX8, ctX8, ktX8, itX8, ntX8)
def xxX9 : XX := (RX9, 9, ftX9, ctX9, ktX9, itX9, ntX9)
def xxX10 : XX := (RX10, 10, ftX10, ctX10, ktX10, itX10, ntX10)
def xxX11 : XX := (RX11, 11, ftX11, ctX11, ktX11, itX11, ntX11)
def xxX12 : XX := (RX12, 12, ftX12, ctX12, ktX12, itX12, ntX12)
def xxL : XX := (RL, 99, ftL, ctL, ktL, itL, ntL)
def xxJ0 : XX := (RJ0, 97, ftJ0, ctJ0, ktJ0, itJ0, ntJ0)
def xxJ1 : XX := (RJ1, 96, ftJ1, ctJ1, ktJ1, itJ1, ntJ1)
def xxJ3 : XX := (RJ3, 95, ftJ3, ctJ3, ktJ3, itJ3, ntJ3)
def xxJ6 : XX := (RJ6, 98, ftJ6, ctJ6, ktJ6, itJ6, ntJ6)
set_option maxRecDepth 100000 in
theorem xx0 : xxP xxX0 := xxP_of (by decide +kernel) rfl rfl (fun q h => by cases h; rfl) rfl rfl
set_option maxRecDepth 100000 in
theorem xx1 : xxP xxX1 := xxP_of (by decide +kernel) rfl rfl (fun q h => by cases h; rfl) rfl rfl
set_option maxRecDepth 100000 in
theorem xx2 : xxP xxX2 := xxP_of (by decide +kernel) rfl rfl (fun q h => by cases h; rfl) rfl rfl
set_option maxRecDepth 100000 in
theorem xx3 : xxP xxX3 := xxP_of (by decide +kernel) rfl rfl (fun q h => by cases h; rfl) rfl rfl
set_option maxRecDepth 100000 in
theorem xx4 : xxP xxX4 := xxP_of (by decide +kernel) rfl rfl (fun q h => by cases h; rfl) rfl rfl
set_option maxRecDepth 100000 in
theorem xx5 : xxP xxX5 := xxP_of (by decide +kernel) rfl rfl (fun q h => by cases h; rfl) rfl rfl
set_option maxRecDepth 100000 in
theorem xx6 : xxP xxX6 := xxP_of (by decide +kernel) rfl rfl (fun q h => by cases h; rfl) rfl rfl
set_option maxRecDepth 100000 in
theorem xx7 : xxP xxX7 := xxP_of (by decide +kernel) rfl rfl (fun q h => by cases h; rfl) rfl rfl
set_option maxRecDepth 100000 in
theorem xx8 : xxP xxX8 := xxP_of (by decide +kernel) rfl rfl (fun q h => by cases h; rfl) rfl rfl
set_option maxRecDepth 100000 in
theorem xx9 : xxP xxX9 := xxP_of (by decide +kernel) rfl rfl (fun q h => by cases h; rfl) rfl rfl
set_option maxRecDepth 100000 in
theorem xx10 : xxP xxX10 := xxP_of (by decide +kernel) rfl rfl (fun q h => by cases h; rfl) rfl rfl
set_option maxRecDepth 100000 in
theorem xx11 : xxP xxX11 := xxP_of (by decide +kernel) rfl rfl (fun q h => by cases h; rfl) rfl rfl
set_option maxRecDepth 100000 in
theorem xx12 : xxP xxX12 := xxP_of (by decide +kernel) rfl rfl (fun q h => by cases h; rfl) rfl rfl
set_option maxRecDepth 100000 in
theorem xxl : xxP xxL := xxP_of (by decide +kernel) rfl rfl (fun q h => by simp [xn, vwCl, xxL] at h) rfl rfl
set_option maxRecDepth 100000 in
theorem xxj0 : xxP xxJ0 := xxP_of (by decide +kernel) rfl rfl (fun q h => by simp [xn, vwCl, xxJ0] at h) rfl rfl
set_option maxRecDepth 100000 in
theorem xxj1 : xxP xxJ1 := xxP_of (by decide +kernel) rfl rfl (fun q h => by simp [xn, vwCl, xxJ1] at h) rfl rfl
set_option maxRecDepth 100000 in
theorem xxj3 : xxP xxJ3 := xxP_of (by decide +kernel) rfl rfl (fun q h => by simp [xn, vwCl, xxJ3] at h) rfl rfl
set_option maxRecDepth 100000 in
theorem xxj6 : xxP xxJ6 := xxP_of (by decide +kernel) rfl rfl (fun q h => by simp [xn, vwCl, xxJ6] at h) rfl rfl
-- what the classes' own words say
def xclP (ci : Nat) (q : vw_C) : Prop := q.2.2 = xN ci ∧ (∀ w ∈ u_ws q.1 q.2.1 q.2.2, w ∈ xgt) ∧ (∀ a, a < q.2.2 → ∀ b, b < q.2.2 → a ≠ b → (q.2.1 a).2.1 ≠ (q.2.1 b).2.1) ∧ ∀ k, k < q.2.2 → parseFieldDescriptor (q.2.1 k).2.2.1 = some (xty ci k) ∧ (q.2.1 k).1 = q.1
theorem xws_mem {C : String} {T : u_T} {N : Nat} (js : List Nat) (h : js.map xlook = (u_ws C T N).map some) (hg : (u_ws C T N).all goodWord = true) : ∀ w ∈ u_ws C T N, w ∈ xgt := fun w hw => xgt_of (xlook_all h w hw) (List.all_eq_true.mp hg w hw)
set_option maxRecDepth 100000 in
theorem xcl0 : xclP 0 (RX0, TX0, 8) := ⟨rfl, xws_mem [2105, 2107, 2109, 2111, 2113, 2115, 2117, 2119] rfl (by decide +kernel), nmX0, fun k hk => ⟨tyX0_ok k hk, (show ∀ k, k < 8 → (TX0 k).1 = RX0 by decide +kernel) k hk⟩⟩
set_option maxRecDepth 100000 in
theorem xcl1 : xclP 1 (RX1, TX1, 10) := ⟨rfl, xws_mem [1080, 1082, 1084, 1086, 1088, 1090, 1092, 1094, 1096, 1098] rfl (by decide +kernel), nmX1, fun k hk => ⟨tyX1_ok k hk, (show ∀ k, k < 10 → (TX1 k).1 = RX1 by decide +kernel) k hk⟩⟩
set_option maxRecDepth 100000 in
theorem xcl2 : xclP 2 (RX2, TX2, 4) := ⟨rfl, xws_mem [1194, 1196, 1198, 1200] rfl (by decide +kernel), nmX2, fun k hk => ⟨tyX2_ok k hk, (show ∀ k, k < 4 → (TX2 k).1 = RX2 by decide +kernel) k hk⟩⟩
set_option maxRecDepth 100000 in
theorem xcl3 : xclP 3 (RX3, TX3, 9) := ⟨rfl, xws_mem [2070, 2072, 2074, 2076, 2078, 2080, 2082, 2084, 2086] rfl (by decide +kernel), nmX3, fun k hk => ⟨tyX3_ok k hk, (show ∀ k, k < 9 → (TX3 k).1 = RX3 by decide +kernel) k hk⟩⟩
set_option maxRecDepth 100000 in
theorem xcl4 : xclP 4 (RX4, TX4, 8) := ⟨rfl, xws_mem [2137, 2139, 2141, 2143, 2145, 2147, 2149, 2151] rfl (by decide +kernel), nmX4, fun k hk => ⟨tyX4_ok k hk, (show ∀ k, k < 8 → (TX4 k).1 = RX4 by decide +kernel) k hk⟩⟩
set_option maxRecDepth 100000 in
theorem xcl5 : xclP 5 (RX5, TX5, 9) := ⟨rfl, xws_mem [2035, 2037, 2039, 2041, 2043, 2045, 2047, 2049, 2051] rfl (by decide +kernel), nmX5, fun k hk => ⟨tyX5_ok k hk, (show ∀ k, k < 9 → (TX5 k).1 = RX5 by decide +kernel) k hk⟩⟩
set_option maxRecDepth 100000 in
theorem xcl6 : xclP 6 (RX6, TX6, 3) := ⟨rfl, xws_mem [1043, 1045, 1047] rfl (by decide +kernel), nmX6, fun k hk => ⟨tyX6_ok k hk, (show ∀ k, k < 3 → (TX6 k).1 = RX6 by decide +kernel) k hk⟩⟩
set_option maxRecDepth 100000 in
theorem xcl7 : xclP 7 (RX7, TX7, 6) := ⟨rfl, xws_mem [2004, 2006, 2008, 2010, 2012, 2014] rfl (by decide +kernel), nmX7, fun k hk => ⟨tyX7_ok k hk, (show ∀ k, k < 6 → (TX7 k).1 = RX7 by decide +kernel) k hk⟩⟩
set_option maxRecDepth 100000 in
theorem xcl8 : xclP 8 (RX8, TX8, 6) := ⟨rfl, xws_mem [1169, 1171, 1173, 1175, 1177, 1179] rfl (by decide +kernel), nmX8, fun k hk => ⟨tyX8_ok k hk, (show ∀ k, k < 6 → (TX8 k).1 = RX8 by decide +kernel) k hk⟩⟩
set_option maxRecDepth 100000 in
theorem xcl9 : xclP 9 (RX9, TX9, 8) := ⟨rfl, xws_mem [1136, 1138, 1140, 1142, 1144, 1146, 1148, 1150] rfl (by decide +kernel), nmX9, fun k hk => ⟨tyX9_ok k hk, (show ∀ k, k < 8 → (TX9 k).1 = RX9 by decide +kernel) k hk⟩⟩
set_option maxRecDepth 100000 in
theorem xcl10 : xclP 10 (RX10, TX10, 3) := ⟨rfl, xws_mem [1219, 1221, 1223] rfl (by decide +kernel), nmX10, fun k hk => ⟨tyX10_ok k hk, (show ∀ k, k < 3 → (TX10 k).1 = RX10 by decide +kernel) k hk⟩⟩
set_option maxRecDepth 100000 in
theorem xcl11 : xclP 11 (RX11, TX11, 18) := ⟨rfl, xws_mem [2172, 2174, 2176, 2178, 2180, 2182, 2184, 2186, 2188, 2190, 2192, 2194, 2196, 2198, 2200, 2202, 2204, 2206] rfl (by decide +kernel), nmX11, fun k hk => ⟨tyX11_ok k hk, (show ∀ k, k < 18 → (TX11 k).1 = RX11 by decide +kernel) k hk⟩⟩
set_option maxRecDepth 100000 in
theorem xcl12 : xclP 12 (RX12, TX12, 48) := ⟨rfl, xws_mem [6044, 6046, 6048, 6050, 6052, 6054, 6056, 6058, 6060, 6062, 6064, 6066, 6068, 6070, 6072, 6074, 6076, 6078, 6080, 6082, 6084, 6086, 6088, 6090, 6092, 6094, 6096, 6098, 6100, 6102, 6104, 6106, 6108, 6110, 6112, 6114, 6116, 6118, 6120, 6122, 6124, 6126, 6128, 6130, 6132, 6134, 6136, 6138] rfl (by decide +kernel), nmX12, fun k hk => ⟨tyX12_ok k hk, (show ∀ k, k < 48 → (TX12 k).1 = RX12 by decide +kernel) k hk⟩⟩
theorem xcl {ci : Nat} {q : vw_C} (h : xn vwCl ci = some q) : xclP ci q := by
  match ci, h with
  | 0, h => cases h; exact xcl0
  | 1, h => cases h; exact xcl1
  | 2, h => cases h; exact xcl2
  | 3, h => cases h; exact xcl3
  | 4, h => cases h; exact xcl4
  | 5, h => cases h; exact xcl5
  | 6, h => cases h; exact xcl6
  | 7, h => cases h; exact xcl7
  | 8, h => cases h; exact xcl8
  | 9, h => cases h; exact xcl9
  | 10, h => cases h; exact xcl10
  | 11, h => cases h; exact xcl11
  | 12, h => cases h; exact xcl12
  | n + 13, h => simp [xn, vwCl] at h
