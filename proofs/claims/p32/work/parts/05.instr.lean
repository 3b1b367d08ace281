-- ===== one instruction on abstract states =====
def xrel (al : Bool) (n0 : Nat) (ρ0 ρ : Nat → Nat) : Prop := (al = false → ρ = ρ0) ∧ ∀ k : Nat, (k < n0 ∨ 900000 ≤ k) → ρ k = ρ0 k
theorem xrel.rf {al : Bool} {n0 : Nat} {ρ : Nat → Nat} : xrel al n0 ρ ρ := ⟨fun _ => rfl, fun _ _ => rfl⟩
def xtys (D : XD) : List (ClassId × FieldType) := [(D.2 0, .int), (D.2 1, .byte), (D.2 2, .long), (D.2 3, .object "BaledShade$Text")]
abbrev XS : Type := Option (Nat × (Nat → Int32))
def xsc (sc : XS) (ρ0 : Nat → Nat) (A : Nat → Prop) (s : State) : Prop := match sc with
  | none => True
  | some q => va_X (ρ0 900000) q.1 q.2 s s.heap ∧ ρ0 900000 < s.heap.size ∧ ¬ A (ρ0 900000)
-- ===== what nobody writes: two Strings, two tables, what two statics hold =====
/-- place 900003: the words' bytes; 900004: the signs' bytes; 900005: the forms; 900006: the names of the laws -/
def xkA : List (Nat × Nat × Nat × List Int32) := [(900003, 1, 192, [108, 111, 110, 103, 32, 32, 103, 114, 111, 119, 115, 32, 115, 112, 111, 105, 108, 115, 115, 101, 108, 108, 115, 32, 109, 97, 121, 32, 32, 32, 116, 104, 105, 110, 103, 32, 114, 101, 97, 112, 101, 114, 98, 97, 114, 110, 32, 32, 99, 117, 116, 32, 32, 32, 108, 97, 115, 116, 32, 32, 117, 115, 101, 32, 32, 32, 109, 111, 118, 101, 32, 32, 115, 101, 108, 108, 32, 32, 104, 111, 117, 114, 32, 32, 100, 97, 121, 32, 32, 32, 107, 105, 110, 100, 32, 32, 104, 101, 105, 103, 104, 116, 103, 114, 111, 119, 110, 32, 99, 108, 111, 117, 100, 32, 100, 97, 114, 107, 32, 32, 108, 101, 110, 103, 116, 104, 104, 101, 114, 101, 32, 32, 111, 119, 110, 101, 114, 32, 115, 104, 97, 100, 111, 119, 111, 102, 32, 32, 32, 32, 98, 121, 32, 32, 32, 32, 116, 111, 32, 32, 32, 32, 102, 114, 111, 109, 32, 32, 111, 114, 32, 32, 32, 32, 97, 110, 100, 32, 32, 32, 110, 111, 116, 32, 32, 32, 112, 97, 114, 116, 32, 32]), (900004, 1, 11, [60, 62, 61, 35, 43, 45, 42, 47, 40, 41, 59]), (900005, 0, 81, [1, 99, 15, 0, 5, 24, 0, 4, 0, 1, 99, 0, 0, 0, 0, 0, 0, 0, 1, 999, 0, 0, 0, 0, 0, 0, 0, 0, 7, 25, 0, 3, 26, 0, 3, 0, 0, 3, 26, 0, 3, 0, 0, 0, 0, 1, 999, 27, 0, 3, 0, 0, 0, 0, 0, 11, 26, 0, 3, 0, 0, 0, 0, 0, 11, 0, 0, 0, 0, 0, 0, 0, 1, 60, 0, 0, 0, 0, 0, 0, 0]), (900006, 0, 5, [63, 62, 454, 199, 1567])]
/-- place 900001: the words, 900002: the signs; with their bytes' places, entries and texts -/
def xkS : List (Nat × Nat × Nat × String) := [(900001, 900003, 78, "long  grows spoilssells may   thing reaperbarn  cut   last  use   move  sell  hour  day   kind  heightgrown cloud dark  lengthhere  owner shadowof    by    to    from  or    and   not   part  "), (900002, 900004, 59, "<>=#+-*/();")]
/-- statics by class and entry: 0 the flag, 1 the formatter (900007), else a place -/
def xkZ : List (Nat × List (Nat × Nat)) := [(5, [(110, 900005), (88, 900006)]), (97, [(38, 0), (1053, 1)])]
/-- fields of a String: 0 its bytes, 1 its coder -/
def xkO : List (Nat × List (Nat × Nat)) := [(97, [(9, 0), (15, 1)])]
/-- literals -/
def xkD : List (Nat × List (Nat × Nat)) := [(7, [(78, 900001), (59, 900002)])]
def xk2 (T : List (Nat × List (Nat × Nat))) (c i : Nat) : Option Nat := match xlk T c with
  | some l => xlk l i
  | none => none
theorem xk2_el {T : List (Nat × List (Nat × Nat))} {c i w : Nat} (h : xk2 T c i = some w) : ∃ l, (c, l) ∈ T ∧ (i, w) ∈ l := by
  unfold xk2 at h
  split at h
  · rename_i l e
    exact ⟨l, xlk_mem e, xlk_mem h⟩
  · cases h
def xkt (kd : Nat) : FieldType := match kd with
  | 0 => .int
  | _ => .byte
def xKC (ρ : Nat → Nat) (A : Nat → Prop) (U : State) (H : Heap) : Prop :=
  va_Z RX5 "FORMS" "[I" (.ref (ρ 900005)) A U H ∧ va_Z RX5 "NAMES_OF" "[I" (.ref (ρ 900006)) A U H ∧ va_Z RJ0 "COMPACT_STRINGS" "Z" (.int 1) A U H ∧ (va_Z RJ3 "SIOOBE_FORMATTER" "Ljava/util/function/BiFunction;" .null A U H ∨ va_Z RJ3 "SIOOBE_FORMATTER" "Ljava/util/function/BiFunction;" (.ref (ρ 900007)) A U H) ∧ (∀ q, q ∈ xkA → va_T (xkt q.2.1) (ρ q.1) q.2.2.1 (fun j => .int (q.2.2.2.getD j 0)) A U H) ∧ ∀ q, q ∈ xkS → va_O RJ0 (ρ q.1) A U H ∧ va_OF RJ0 "coder" "B" (.int 0) (ρ q.1) A U H ∧ va_OF RJ0 "value" "[B" (.ref (ρ q.2.1)) (ρ q.1) A U H ∧ vk_R RX7 q.2.2.1 q.2.2.2 (ρ q.1) U
theorem xkS_ge : ∀ q, q ∈ xkS → 900000 ≤ q.1 ∧ 900000 ≤ q.2.1 := by
  intro q hq
  simp only [xkS, List.mem_cons, List.not_mem_nil, or_false] at hq
  rcases hq with h | h <;> subst h <;> exact ⟨Nat.le_of_ble_eq_true rfl, Nat.le_of_ble_eq_true rfl⟩
theorem xkA_ge : ∀ q, q ∈ xkA → 900000 ≤ q.1 := by
  intro q hq
  simp only [xkA, List.mem_cons, List.not_mem_nil, or_false] at hq
  rcases hq with h | h | h | h <;> subst h <;> exact Nat.le_of_ble_eq_true rfl
theorem xKC.pass {ρ ρ' : Nat → Nat} {A A' : Nat → Prop} {s U : State} {H H' : Heap} (hvm : s.vm.Alike U.vm) (hR : ∀ own k tx a, vk_R own k tx a s → vk_R own k tx a U) (hH : ∀ a : Nat, a < H.size → ¬ A a → H'[a]? = H[a]?) (hρ : ∀ k, 900000 ≤ k → ρ' k = ρ k) (hA : ∀ q, A' q → A q) (h : xKC ρ A s H) : xKC ρ' A' U H' := by
  obtain ⟨h1, h2, h3, h4, h5, h6⟩ := h
  have e5 := hρ 900005 (Nat.le_of_ble_eq_true rfl)
  have e6 := hρ 900006 (Nat.le_of_ble_eq_true rfl)
  have e7 := hρ 900007 (Nat.le_of_ble_eq_true rfl)
  refine ⟨?_, ?_, ?_, ?_, fun q hq => ?_, fun q hq => ?_⟩
  · rw [e5]
    exact va_Z.narrow (va_Z.kept (va_Z.moved hvm h1) hH) hA
  · rw [e6]
    exact va_Z.narrow (va_Z.kept (va_Z.moved hvm h2) hH) hA
  · exact va_Z.narrow (va_Z.kept (va_Z.moved hvm h3) hH) hA
  · rcases h4 with h4 | h4
    · exact Or.inl (va_Z.narrow (va_Z.kept (va_Z.moved hvm h4) hH) hA)
    · rw [e7]
      exact Or.inr (va_Z.narrow (va_Z.kept (va_Z.moved hvm h4) hH) hA)
  · rw [hρ _ (xkA_ge q hq)]
    exact va_T.narrow (va_T.kept (va_T.moved hvm (h5 q hq)) hH) hA
  · obtain ⟨g1, g2, g3, g4⟩ := h6 q hq
    rw [hρ _ (xkS_ge q hq).1, hρ _ (xkS_ge q hq).2]
    exact ⟨va_O.narrow (va_O.kept (va_O.moved hvm g1) hH) hA, va_OF.narrow (va_OF.kept (va_OF.moved hvm g2) hH) hA, va_OF.narrow (va_OF.kept (va_OF.moved hvm g3) hH) hA, hR _ _ _ _ g4⟩
/-- what else holds of the start: the words of nest mates, and what is read outside the world -/
def xE (ρ : Nat → Nat) (A : Nat → Prop) (U : State) (H : Heap) : Prop := ((∀ w ∈ xnestL, va_Nw w U) ∧ va_AO RX8 U) ∧ xKC ρ A U H
theorem xnest_tab : ∀ w ∈ xnestL, w.onTables = true := by decide +kernel
theorem xE.blind {ρ : Nat → Nat} {A : Nat → Prop} {U : State} {g : JFrame} {mk : MethodId} {a : Array Value} (h : xE ρ A U U.heap) : xE ρ A (U.calling g mk a) (U.calling g mk a).heap := ⟨⟨fun w hw => va_Nw.same (u := U) (U := U.calling g mk a) (xnest_tab w hw) rfl (h.1.1 w hw), va_AO.moved (u := U) (U := U.calling g mk a) (Vm.Alike.refl U.vm) h.1.2⟩, xKC.pass (s := U) (U := U.calling g mk a) (Vm.Alike.refl U.vm) (fun _ _ _ _ z => vk_R.same rfl z) (fun _ _ _ => rfl) (fun _ _ => rfl) (fun _ z => z) h.2⟩
theorem xnest_kind : ∀ w ∈ xnestL, ∃ a i x h, w = .methodLinkNest a i x h := by
  intro w hw
  simp only [xnestL, List.mem_cons, List.not_mem_nil, or_false] at hw
  rcases hw with h | h | h | h | h | h <;> exact ⟨_, _, _, _, h⟩
theorem xE.warm {ρ ρ' : Nat → Nat} {A A' : Nat → Prop} {s U : State} {H H' : Heap} (hW : s.WarmedH U.vm) (hH : ∀ a : Nat, a < H.size → ¬ A a → H'[a]? = H[a]?) (hρ : ∀ k, 900000 ≤ k → ρ' k = ρ k) (hA : ∀ q, A' q → A q) (h : xE ρ A s H) : xE ρ' A' U H' := by
  refine ⟨⟨fun w hw => ?_, va_AO.moved hW.alike h.1.2⟩, xKC.pass hW.alike (fun _ _ _ _ z => vk_R.warm hW z) hH hρ hA h.2⟩
  have h1 := h.1.1 w hw
  obtain ⟨a, i, x, y, rfl⟩ := xnest_kind w hw
  exact va_Nw.warmM hW h1
def XG (p : Program) (R : Room) (s : State) (m : MethodId) (args : Array Value) (meth : Method) (D : XD) (A : Nat → Prop) (ρ0 : Nat → Nat) (sc : XS) (d mc ms : Nat) (ini : Bool) (own : String) : Prop :=
  p.tables.exec = Jvm.exec ∧ s.vm.findClass own = some m.cls ∧ (∀ w ∈ xgt, w.before args s = true) ∧ (∀ q : Nat, s.heap.size ≤ q → A q) ∧ va_K D.1 vwCl (xtys D) s ∧ xsc sc ρ0 A s ∧ xE ρ0 A s s.heap ∧ (d + 1 ≤ R.frames ∧ 60 * (d + 1) ≤ R.locals ∧ R.cells = mc ∧ R.slots = ms) ∧ (ini = true → meth.name = "<init>")
def XW (p : Program) (l : Launch) (e : Env) (R : Room) (s : State) (m : MethodId) (args : Array Value) (below : List Frame) (meth : Method) (c : Code) (D : XD) (A : Nat → Prop) (al : Bool) (n0 : Nat) (ρ0 : Nat → Nat) (Q : State → Prop) (pc : Nat) : XP := fun lc st sh I J a b =>
  ∀ (ρ : Nat → Nat) (H : Heap) (locs : List Loc) (ls : Array Slot), xrel al n0 ρ0 ρ → va_P D.1 vwCl (wl D ρ sh I J) H → va_D A (wl D ρ sh I J) → va_S A s.heap H locs → xl ρ lc ls → ls.size = c.maxLocals → W p l e R s m args below meth c H locs a b Q (F0 m pc ls (st.map (xv ρ)))
def xlen : Jvm.ClassFile.Instr → Nat
  | .bipush _ => 2
  | .sipush _ => 3
  | .iload _ => 2
  | .lload _ => 2
  | .aload _ => 2
  | .istore _ => 2
  | .lstore _ => 2
  | .astore _ => 2
  | .iinc _ _ => 3
  | .getfield _ => 3
  | .putfield _ => 3
  | .getstatic _ => 3
  | .ldc2_w _ => 3
  | .ldc _ => 2
  | .ldc_w _ => 3
  | .new _ => 3
  | .newarray _ => 2
  | .anewarray _ => 3
  | .invokestatic _ => 3
  | .invokespecial _ => 3
  | .invokevirtual _ => 3
  | .goto _ => 3
  | .ifCond _ _ => 3
  | .if_icmp _ _ => 3
  | .ifnonnull _ => 3
  | .ifnull _ => 3
  | _ => 1
-- readers of the stack
def xi1 (st : List Value) (f : Int32 → List Value → Prop) : Prop := match st with
  | .int x :: r => f x r
  | _ => False
def xii (st : List Value) (f : Int32 → Int32 → List Value → Prop) : Prop := match st with
  | .int y :: .int x :: r => f x y r
  | _ => False
def xl1 (st : List Value) (f : Int64 → List Value → Prop) : Prop := match st with
  | .long x :: r => f x r
  | _ => False
def xl2 (st : List Value) (f : Int64 → Int64 → List Value → Prop) : Prop := match st with
  | .long y :: .long x :: r => f x y r
  | _ => False
def xr1 (st : List Value) (f : Nat → List Value → Prop) : Prop := match st with
  | .ref x :: r => f x r
  | _ => False
def xir (st : List Value) (f : Int32 → Nat → List Value → Prop) : Prop := match st with
  | .int j :: .ref p :: r => f j p r
  | _ => False
def xv1 (st : List Value) (f : Value → List Value → Prop) : Prop := match st with
  | v :: r => f v r
  | _ => False
def xv2 (st : List Value) (f : Value → Value → List Value → Prop) : Prop := match st with
  | v :: w :: r => f v w r
  | _ => False
def xvr (st : List Value) (f : Value → Nat → List Value → Prop) : Prop := match st with
  | v :: .ref p :: r => f v p r
  | _ => False
def xvir (st : List Value) (f : Value → Int32 → Nat → List Value → Prop) : Prop := match st with
  | v :: .int j :: .ref p :: r => f v j p r
  | _ => False
theorem xi1_el {st : List Value} {f : Int32 → List Value → Prop} (h : xi1 st f) : ∃ x r, st = .int x :: r ∧ f x r := by
  unfold xi1 at h
  split at h
  · exact ⟨_, _, rfl, h⟩
  · exact h.elim
theorem xii_el {st : List Value} {f : Int32 → Int32 → List Value → Prop} (h : xii st f) : ∃ x y r, st = .int y :: .int x :: r ∧ f x y r := by
  unfold xii at h
  split at h
  · exact ⟨_, _, _, rfl, h⟩
  · exact h.elim
theorem xl1_el {st : List Value} {f : Int64 → List Value → Prop} (h : xl1 st f) : ∃ x r, st = .long x :: r ∧ f x r := by
  unfold xl1 at h
  split at h
  · exact ⟨_, _, rfl, h⟩
  · exact h.elim
theorem xl2_el {st : List Value} {f : Int64 → Int64 → List Value → Prop} (h : xl2 st f) : ∃ x y r, st = .long y :: .long x :: r ∧ f x y r := by
  unfold xl2 at h
  split at h
  · exact ⟨_, _, _, rfl, h⟩
  · exact h.elim
theorem xr1_el {st : List Value} {f : Nat → List Value → Prop} (h : xr1 st f) : ∃ x r, st = .ref x :: r ∧ f x r := by
  unfold xr1 at h
  split at h
  · exact ⟨_, _, rfl, h⟩
  · exact h.elim
theorem xir_el {st : List Value} {f : Int32 → Nat → List Value → Prop} (h : xir st f) : ∃ j p r, st = .int j :: .ref p :: r ∧ f j p r := by
  unfold xir at h
  split at h
  · exact ⟨_, _, _, rfl, h⟩
  · exact h.elim
theorem xv1_el {st : List Value} {f : Value → List Value → Prop} (h : xv1 st f) : ∃ v r, st = v :: r ∧ f v r := by
  unfold xv1 at h
  split at h
  · exact ⟨_, _, rfl, h⟩
  · exact h.elim
theorem xv2_el {st : List Value} {f : Value → Value → List Value → Prop} (h : xv2 st f) : ∃ v w r, st = v :: w :: r ∧ f v w r := by
  unfold xv2 at h
  split at h
  · exact ⟨_, _, _, rfl, h⟩
  · exact h.elim
theorem xvr_el {st : List Value} {f : Value → Nat → List Value → Prop} (h : xvr st f) : ∃ v p r, st = v :: .ref p :: r ∧ f v p r := by
  unfold xvr at h
  split at h
  · exact ⟨_, _, _, rfl, h⟩
  · exact h.elim
theorem xvir_el {st : List Value} {f : Value → Int32 → Nat → List Value → Prop} (h : xvir st f) : ∃ v j p r, st = v :: .int j :: .ref p :: r ∧ f v j p r := by
  unfold xvir at h
  split at h
  · exact ⟨_, _, _, _, rfl, h⟩
  · exact h.elim
-- readers of locals
def xli (o : Option (Option Value)) (f : Int32 → Prop) : Prop := match o with
  | some (some (.int x)) => f x
  | _ => False
def xll (o : Option (Option Value)) (f : Int64 → Prop) : Prop := match o with
  | some (some (.long x)) => f x
  | _ => False
def xla (o : Option (Option Value)) (f : Nat → Prop) : Prop := match o with
  | some (some (.ref x)) => f x
  | _ => False
theorem xli_el {o : Option (Option Value)} {f : Int32 → Prop} (h : xli o f) : ∃ x, o = some (some (.int x)) ∧ f x := by
  unfold xli at h
  split at h
  · exact ⟨_, rfl, h⟩
  · exact h.elim
theorem xll_el {o : Option (Option Value)} {f : Int64 → Prop} (h : xll o f) : ∃ x, o = some (some (.long x)) ∧ f x := by
  unfold xll at h
  split at h
  · exact ⟨_, rfl, h⟩
  · exact h.elim
theorem xla_el {o : Option (Option Value)} {f : Nat → Prop} (h : xla o f) : ∃ x, o = some (some (.ref x)) ∧ f x := by
  unfold xla at h
  split at h
  · exact ⟨_, rfl, h⟩
  · exact h.elim
def xin {α : Type} (o : Option α) (P : Prop) : Prop := match o with
  | some _ => P
  | none => False
theorem xin_el {α : Type} {l : List α} {i : Nat} {P : Prop} (h : xin (xn l i) P) : i < l.length ∧ P := by
  rw [xn_eq] at h
  unfold xin at h
  split at h
  · rename_i v hv
    exact ⟨(List.getElem?_eq_some_iff.mp hv).1, h⟩
  · exact h.elim
def xb (c : Bool) (P : Prop) : Prop := match c with
  | true => P
  | false => False
theorem xb_el {c : Bool} {P : Prop} (h : xb c P) : c = true ∧ P := by
  cases c with
  | true => exact ⟨rfl, h⟩
  | false => exact h.elim
-- readers of the heap
def xgo (X : XX) (sh : List XO) (p idx : Nat) (f : Nat → Nat → List (Option Nat) → Prop) : Prop := match xlk X.2.2.1 idx with
  | some e => (match xn sh p with
    | some (.inl q) => xb (Nat.beq q.1 e.1) (f e.1 e.2.1 q.2)
    | _ => False)
  | none => False
theorem xgo_el {X : XX} {sh : List XO} {p idx : Nat} {f : Nat → Nat → List (Option Nat) → Prop} (h : xgo X sh p idx f) : ∃ ci k j rs, (idx, ci, k, j) ∈ X.2.2.1 ∧ xn sh p = some (.inl (ci, rs)) ∧ f ci k rs := by
  unfold xgo at h
  split at h
  · rename_i e he
    split at h
    · rename_i q hq
      obtain ⟨h1, h2⟩ := xb_el h
      have h3 := Nat.eq_of_beq_eq_true h1
      exact ⟨e.1, e.2.1, e.2.2, q.2, xlk_mem he, by rw [hq, ← h3], h2⟩
    · exact h.elim
  · exact h.elim
def xga (sh : List XO) (p kd : Nat) (f : Nat → List (Option Nat) → Prop) : Prop := match xn sh p with
  | some (.inr q) => xb (Nat.beq q.1 kd) (f q.2.1 q.2.2)
  | _ => False
theorem xga_el {sh : List XO} {p kd : Nat} {f : Nat → List (Option Nat) → Prop} (h : xga sh p kd f) : ∃ n rs, xn sh p = some (.inr (kd, n, rs)) ∧ f n rs := by
  unfold xga at h
  split at h
  · rename_i q hq
    obtain ⟨h1, h2⟩ := xb_el h
    have h3 := Nat.eq_of_beq_eq_true h1
    exact ⟨q.2.1, q.2.2, by rw [hq, ← h3], h2⟩
  · exact h.elim
def xgf (I : XI) (p ci k : Nat) (rs : List (Option Nat)) : Value := match isRefT (xty ci k) with
  | true => xref rs k
  | false => .int (I p k)
theorem xgf_eq {ρ : Nat → Nat} {I : XI} {p ci k : Nat} {rs : List (Option Nat)} : xfv ρ (I p) ci rs k = xv ρ (xgf I p ci k rs) := by
  unfold xfv xgf
  cases h : isRefT (xty ci k) <;> simp [xv]
def xfin (ci k : Nat) : Bool := match xn vwCl ci with
  | some q => (q.2.1 k).2.2.2
  | none => true
def xpf (X : XX) (ini : Bool) (ci k : Nat) (P : Prop) : Prop := match xfin ci k with
  | false => P
  | true => xb (ini && Nat.beq X.2.1 ci) P
theorem xpf_el {X : XX} {ini : Bool} {ci k : Nat} {P : Prop} (h : xpf X ini ci k P) : (xfin ci k = false ∨ (xfin ci k = true ∧ ini = true ∧ X.2.1 = ci)) ∧ P := by
  unfold xpf at h
  split at h
  · rename_i e
    exact ⟨Or.inl e, h⟩
  · rename_i e
    obtain ⟨h1, h2⟩ := xb_el h
    simp only [Bool.and_eq_true] at h1
    exact ⟨Or.inr ⟨e, h1.1, Nat.eq_of_beq_eq_true h1.2⟩, h2⟩
def xpv (ty : FieldType) (v : Value) (fi : Int32 → Prop) (fr : Nat → Prop) : Prop := match ty, v with
  | .int, .int x => fi x
  | .boolean, .int x => (x = 0 ∨ x = 1) ∧ fi x
  | .object _, .ref q => fr q
  | .array _, .ref q => fr q
  | _, _ => False
theorem xpv_el {ty : FieldType} {v : Value} {fi : Int32 → Prop} {fr : Nat → Prop} (h : xpv ty v fi fr) : (∃ x, v = .int x ∧ isRefT ty = false ∧ narrow ty (.int x) = .int x ∧ fits ty (.int x) = true ∧ fi x) ∨ ∃ q, v = .ref q ∧ isRefT ty = true ∧ (∀ a, narrow ty (.ref a) = .ref a) ∧ (∀ a, fits ty (.ref a) = true) ∧ fr q := by
  unfold xpv at h
  split at h
  · exact Or.inl ⟨_, rfl, rfl, rfl, rfl, h⟩
  · obtain ⟨h1, h2⟩ := h
    refine Or.inl ⟨_, rfl, rfl, ?_, ?_, h2⟩
    · rcases h1 with e | e <;> subst e <;> rfl
    · rcases h1 with e | e <;> subst e <;> rfl
  · exact Or.inr ⟨_, rfl, rfl, fun _ => rfl, fun _ => rfl, h⟩
  · exact Or.inr ⟨_, rfl, rfl, fun _ => rfl, fun _ => rfl, h⟩
  · exact h.elim
-- new places
def xwv (n : Nat) (v : Value) : Bool := match v with
  | .ref k => !(Nat.beq k n)
  | _ => true
def xwo (n : Nat) (o : Option Nat) : Bool := match o with
  | some k => !(Nat.beq k n)
  | none => true
def xwl (n : Nat) (o : Option Value) : Bool := match o with
  | some v => xwv n v
  | none => true
def xws (n : Nat) (o : XO) : Bool := match o with
  | .inl q => q.2.all (xwo n)
  | .inr q => q.2.2.all (xwo n)
def xwf (n : Nat) (lc : List (Option Value)) (st : List Value) (sh : List XO) : Bool := lc.all (xwl n) && st.all (xwv n) && sh.all (xws n)
def xup (ρ : Nat → Nat) (n a : Nat) : Nat → Nat := fun k => if k = n then a else ρ k
theorem xup_ne {ρ : Nat → Nat} {n a k : Nat} (h : k ≠ n) : xup ρ n a k = ρ k := by simp [xup, h]
theorem xup_eq {ρ : Nat → Nat} {n a : Nat} : xup ρ n a n = a := by simp [xup]
theorem xwv_up {ρ : Nat → Nat} {n a : Nat} {v : Value} (h : xwv n v = true) : xv (xup ρ n a) v = xv ρ v := by
  cases v with
  | ref k =>
    simp only [xwv, Bool.not_eq_true'] at h
    have hk : k ≠ n := fun e => by rw [e] at h; simp at h
    simp [xv, xup_ne hk]
  | _ => rfl
theorem xwo_up {ρ : Nat → Nat} {n a : Nat} {rs : List (Option Nat)} (h : rs.all (xwo n) = true) (k : Nat) : xopt (xup ρ n a) rs k = xopt ρ rs k := by
  unfold xopt
  rw [xn_eq]
  cases e : rs[k]? with
  | none => rfl
  | some o =>
    cases o with
    | none => rfl
    | some q =>
      have h1 := List.all_eq_true.mp h (some q) (List.mem_of_getElem? e)
      simp only [xwo, Bool.not_eq_true'] at h1
      have hk : q ≠ n := fun e => by rw [e] at h1; simp at h1
      simp [xup_ne hk]
theorem xws_up {D : XD} {ρ : Nat → Nat} {n a k : Nat} {o : XO} {I I' : XI} {J J' : XJ} (h : xws n o = true) (hk : k ≠ n) (hI : I' k = I k) (hJ : J' k = J k) : xel D (xup ρ n a) I' J' k o = xel D ρ I J k o := by
  cases o with
  | inl q =>
    have e : xfv (xup ρ n a) (I k) q.1 q.2 = xfv ρ (I k) q.1 q.2 := by
      funext j
      unfold xfv
      split
      · rw [← xopt_ref, ← xopt_ref, xwo_up h]
      · rfl
    simp only [xel, xup_ne hk, hI, xob, e]
  | inr q =>
    have e : xopt (xup ρ n a) q.2.2 = xopt ρ q.2.2 := funext (fun j => xwo_up h j)
    simp only [xel, xup_ne hk, hI, hJ, e]
theorem wl_push {D : XD} {ρ : Nat → Nat} {a : Nat} {o : XO} {e : va_E} {lc : List (Option Value)} {st : List Value} {sh : List XO} {I I' : XI} {J J' : XJ} (h : xwf sh.length lc st sh = true) (hI : ∀ k, k ≠ sh.length → I' k = I k) (hJ : ∀ k, k ≠ sh.length → J' k = J k) (he : xel D (xup ρ sh.length a) I' J' sh.length o = (a, e)) : wl D ρ sh I J ++ [(a, e)] = wl D (xup ρ sh.length a) (sh ++ [o]) I' J' := by
  simp only [xwf, Bool.and_eq_true] at h
  apply List.ext_getElem?
  intro i
  by_cases hi : i < sh.length
  · rw [List.getElem?_append_left (by rw [wl_len]; exact hi)]
    simp only [wl, List.getElem?_mapIdx]
    rw [List.getElem?_append_left hi]
    have h1 := List.all_eq_true.mp h.2 sh[i] (List.getElem_mem hi)
    rw [List.getElem?_eq_getElem hi]
    simp only [Option.map_some]
    rw [xws_up h1 (by omega) (hI i (by omega)) (hJ i (by omega))]
  · by_cases h2 : i = sh.length
    · subst h2
      rw [List.getElem?_append_right (by rw [wl_len]; exact Nat.le_refl _)]
      simp only [wl, List.getElem?_mapIdx, List.length_mapIdx, Nat.sub_self, List.getElem?_cons_zero]
      rw [List.getElem?_append_right (Nat.le_refl _)]
      simp [he]
    · rw [List.getElem?_eq_none (by simp [wl_len]; omega), List.getElem?_eq_none (by simp [wl_len]; omega)]
theorem xwf_st {ρ : Nat → Nat} {n a : Nat} {lc : List (Option Value)} {st : List Value} {sh : List XO} (h : xwf n lc st sh = true) : st.map (xv (xup ρ n a)) = st.map (xv ρ) := by
  simp only [xwf, Bool.and_eq_true] at h
  exact List.map_congr_left (fun v hv => xwv_up (List.all_eq_true.mp h.1.2 v hv))
theorem xwf_xl {ρ : Nat → Nat} {n a : Nat} {lc : List (Option Value)} {st : List Value} {sh : List XO} {ls : Array Slot} (h : xwf n lc st sh = true) (hl : xl ρ lc ls) : xl (xup ρ n a) lc ls := by
  simp only [xwf, Bool.and_eq_true] at h
  refine ⟨hl.1, hl.2.1, fun i v hv => ?_⟩
  have h1 := List.all_eq_true.mp h.1.1 (some v) (List.mem_of_getElem? hv)
  rw [xwv_up h1]
  exact hl.2.2 i v hv
theorem xrel_up {al : Bool} {n0 n a : Nat} {ρ0 ρ : Nat → Nat} (h : xrel al n0 ρ0 ρ) (hal : al = true) (h1 : n0 ≤ n) (h2 : n < 900000) : xrel al n0 ρ0 (xup ρ n a) := by
  refine ⟨fun e => absurd (hal.symm.trans e) (by decide), fun k hk => ?_⟩
  rw [xup_ne (by omega)]
  exact h.2 k hk
