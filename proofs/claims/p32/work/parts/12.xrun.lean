theorem xsw_look {x : Int32} {df : Int} {jp : Int → Prop} : ∀ {ps : List (Int × Int)}, xsw x df jp ps → xrg ps = true → jp (Op.lookupswitch.offset ps df x.toInt)
  | [], h, _ => h
  | (v, o) :: ps, h, hr => by
    simp only [xrg, List.all_cons, Bool.and_eq_true, decide_eq_true_eq] at hr
    rw [Op.lookupswitch.offset_cons]
    by_cases e : v = x.toInt
    · rw [if_pos e]
      refine h.1 ?_
      rw [← Int32.toInt_inj, hr.1]
      exact e.symm
    · rw [if_neg e]
      refine xsw_look (h.2 fun z => e ?_) hr.2
      rw [z, hr.1]
theorem xsw_tab {x : Int32} {df : Int} {jp : Int → Prop} : ∀ {os : List Int} {lo : Int}, xsw x df jp (xtp lo os) → xrg (xtp lo os) = true → (x.toInt < lo ∨ lo + os.length ≤ x.toInt → jp df) ∧ (∀ (i : Nat) (o : Int), os[i]? = some o → x.toInt = lo + i → jp o)
  | [], lo, h, _ => ⟨fun _ => h, fun i o q => by simp at q⟩
  | a :: os, lo, h, hr => by
    simp only [xtp, xrg, List.all_cons, Bool.and_eq_true, decide_eq_true_eq] at hr
    refine ⟨fun z => ?_, fun i o q z => ?_⟩
    · have hne : ¬ x = Int32.ofInt lo := by
        intro y
        rw [y, hr.1] at z
        simp only [List.length_cons] at z
        omega
      refine (xsw_tab (h.2 hne) hr.2).1 ?_
      have hne2 : x.toInt ≠ lo := fun y => hne (by rw [← Int32.toInt_inj, hr.1]; exact y)
      simp only [List.length_cons] at z
      omega
    · cases i with
      | zero =>
        simp only [List.getElem?_cons_zero, Option.some.injEq] at q
        subst q
        exact h.1 (by rw [← Int32.toInt_inj, hr.1, z]; simp)
      | succ i =>
        have hne : ¬ x = Int32.ofInt lo := by
          intro y
          rw [y, hr.1] at z
          omega
        refine (xsw_tab (h.2 hne) hr.2).2 i o (by simpa using q) ?_
        rw [z]
        omega
section XRUN
variable {p : Program} {l : Launch} {e : Env} {R : Room} {s : State} {m : MethodId} {args : Array Value} {below : List Frame} {meth : Method} {c : Code} {D : XD} {A : Nat → Prop} {al : Bool} {n0 : Nat} {ρ0 : Nat → Nat} {Q : State → Prop} {sc : XS} {d mc ms : Nat} {ini : Bool} {X : XX} {rt : Option FieldType} {t : XT} {stop : List Nat} {K : Nat → XP} {Rp : XR}
variable {pc : Nat} {lc : List (Option Value)} {st r : List Value} {sh : List XO} {I : XI} {J : XJ} {a b : Nat} {k : XP}
/-- what the end of a method wants -/
def XEnd (p : Program) (l : Launch) (e : Env) (R : Room) (s : State) (m : MethodId) (args : Array Value) (below : List Frame) (meth : Method) (c : Code) (D : XD) (A : Nat → Prop) (al : Bool) (n0 : Nat) (ρ0 : Nat → Nat) (Q : State → Prop) (rt : Option FieldType) (mc ms : Nat) (Rp : XR) : Prop :=
  ∀ (v : Option Value) (sh : List XO) (I : XI) (J : XJ) (a b pc : Nat) (i : Jvm.ClassFile.Instr) (ρ : Nat → Nat) (H : Heap) (locs : List Loc) (ls : Array Slot), Rp v sh I J → a ≤ mc → b ≤ ms → decode c.code pc = .ok (i, 1) →
    ((v = none ∧ i = .return_ ∧ rt = none) ∨ (∃ x, v = some (.int x) ∧ i = .ireturn ∧ (rt = some .int ∨ (rt = some .boolean ∧ (x = 0 ∨ x = 1)) ∨ ((rt = some .char ∨ rt = some .byte) ∧ ∀ ty, rt = some ty → narrow ty (.int x) = .int x))) ∨ (∃ x, v = some (.long x) ∧ i = .lreturn ∧ rt = some .long) ∨ (∃ x, v = some (.ref x) ∧ i = .areturn ∧ ((∃ n, rt = some (.object n)) ∨ ∃ y, rt = some (.array y)))) →
    xrel al n0 ρ0 ρ → va_P D.1 vwCl (wl D ρ sh I J) H → va_D A (wl D ρ sh I J) → va_S A s.heap H locs → W p l e R s m args below meth c H locs a b Q (F0 m pc ls (v.toList.map (xv ρ)))
theorem xjmp_ok (hK : ∀ pc lc st sh I J a b, K pc lc st sh I J a b → XW p l e R s m args below meth c D A al n0 ρ0 Q pc lc st sh I J a b) {rn : XT → XP} (hrn : ∀ e' es, (∀ q ∈ e' :: es, q ∈ t) → ∀ lc st sh I J a b, rn (e' :: es) lc st sh I J a b → XW p l e R s m args below meth c D A al n0 ρ0 Q e'.1 lc st sh I J a b) {tg : Int} (h : xjmp t stop K rn tg lc st sh I J a b) : ∃ g : Nat, tg = (g : Int) ∧ XW p l e R s m args below meth c D A al n0 ρ0 Q g lc st sh I J a b := by
  unfold xjmp at h
  split at h
  · rename_i g
    refine ⟨g, rfl, ?_⟩
    split at h
    · exact hK _ _ _ _ _ _ _ _ h
    · split at h
      · exact h.elim
      · rename_i e' es he
        obtain ⟨h1, h⟩ := xb_el h
        have h2 := Nat.eq_of_beq_eq_true h1
        rw [← h2]
        exact hrn e' es (fun q hq => xdrop_sub q (by rw [he]; exact hq)) _ _ _ _ _ _ _ h
  · exact h.elim
theorem xnxt_ok (hK : ∀ pc lc st sh I J a b, K pc lc st sh I J a b → XW p l e R s m args below meth c D A al n0 ρ0 Q pc lc st sh I J a b) {rn : XT → XP} (hrn : ∀ e' es, (∀ q ∈ e' :: es, q ∈ t) → ∀ lc st sh I J a b, rn (e' :: es) lc st sh I J a b → XW p l e R s m args below meth c D A al n0 ρ0 Q e'.1 lc st sh I J a b) {es : XT} (hes : ∀ q ∈ es, q ∈ t) {g : Nat} (h : xnxt stop K rn es g lc st sh I J a b) : XW p l e R s m args below meth c D A al n0 ρ0 Q g lc st sh I J a b := by
  unfold xnxt at h
  split at h
  · exact h.elim
  · rename_i e' es
    obtain ⟨h1, h⟩ := xb_el h
    have h2 := Nat.eq_of_beq_eq_true h1
    split at h
    · exact hK _ _ _ _ _ _ _ _ h
    · rw [← h2]
      exact hrn e' es hes _ _ _ _ _ _ _ h
theorem xc1_ok (G : XG p R s m args meth D A ρ0 sc d mc ms ini X.1) {q : Jvm.ClassFile.Cond} {off : Int} {x : Int32} {T F : Prop} (hd : decode c.code pc = .ok (.ifCond q off, 3)) (hT : T → ∃ g : Nat, (pc : Int) + off = (g : Int) ∧ XW p l e R s m args below meth c D A al n0 ρ0 Q g lc r sh I J a b) (hF : F → XW p l e R s m args below meth c D A al n0 ρ0 Q (pc + 3) lc r sh I J a b) (h : xc1 q x T F) (htg : ∃ g : Nat, (pc : Int) + off = (g : Int)) : XW p l e R s m args below meth c D A al n0 ρ0 Q pc lc (.int x :: r) sh I J a b := by
  obtain ⟨g, hg⟩ := htg
  have hT' : T → XW p l e R s m args below meth c D A al n0 ρ0 Q g lc r sh I J a b := by
    intro z
    obtain ⟨g', h1, h2⟩ := hT z
    have : g' = g := by omega
    rw [← this]
    exact h2
  intro ρ H locs ls h1 h2 h3 h4 h5 h6
  cases q with
  | eq => exact lv_if_eq G.1 rfl hd hg (fun z => hT' (h.1 z) ρ H locs ls h1 h2 h3 h4 h5 h6) (fun z => hF (h.2 z) ρ H locs ls h1 h2 h3 h4 h5 h6)
  | ne => exact lv_if_ne G.1 rfl hd hg (fun z => hT' (h.1 z) ρ H locs ls h1 h2 h3 h4 h5 h6) (fun z => hF (h.2 z) ρ H locs ls h1 h2 h3 h4 h5 h6)
  | lt => exact lv_if_lt G.1 rfl hd hg (fun z => hT' (h.1 z) ρ H locs ls h1 h2 h3 h4 h5 h6) (fun z => hF (h.2 z) ρ H locs ls h1 h2 h3 h4 h5 h6)
  | ge => exact lv_if_ge G.1 rfl hd hg (fun z => hT' (h.1 z) ρ H locs ls h1 h2 h3 h4 h5 h6) (fun z => hF (h.2 z) ρ H locs ls h1 h2 h3 h4 h5 h6)
  | gt => exact lv_if_gt G.1 rfl hd hg (fun z => hT' (h.1 z) ρ H locs ls h1 h2 h3 h4 h5 h6) (fun z => hF (h.2 z) ρ H locs ls h1 h2 h3 h4 h5 h6)
  | le => exact lv_if_le G.1 rfl hd hg (fun z => hT' (h.1 z) ρ H locs ls h1 h2 h3 h4 h5 h6) (fun z => hF (h.2 z) ρ H locs ls h1 h2 h3 h4 h5 h6)
theorem xc2_ok (G : XG p R s m args meth D A ρ0 sc d mc ms ini X.1) {q : Jvm.ClassFile.Cond} {off : Int} {x y : Int32} {T F : Prop} (hd : decode c.code pc = .ok (.if_icmp q off, 3)) (hT : T → ∃ g : Nat, (pc : Int) + off = (g : Int) ∧ XW p l e R s m args below meth c D A al n0 ρ0 Q g lc r sh I J a b) (hF : F → XW p l e R s m args below meth c D A al n0 ρ0 Q (pc + 3) lc r sh I J a b) (h : xc2 q x y T F) (htg : ∃ g : Nat, (pc : Int) + off = (g : Int)) : XW p l e R s m args below meth c D A al n0 ρ0 Q pc lc (.int y :: .int x :: r) sh I J a b := by
  obtain ⟨g, hg⟩ := htg
  have hT' : T → XW p l e R s m args below meth c D A al n0 ρ0 Q g lc r sh I J a b := by
    intro z
    obtain ⟨g', h1, h2⟩ := hT z
    have : g' = g := by omega
    rw [← this]
    exact h2
  intro ρ H locs ls h1 h2 h3 h4 h5 h6
  cases q with
  | eq => exact lv_icmp_eq G.1 rfl hd hg (fun z => hT' (h.1 z) ρ H locs ls h1 h2 h3 h4 h5 h6) (fun z => hF (h.2 z) ρ H locs ls h1 h2 h3 h4 h5 h6)
  | ne => exact lv_icmp_ne G.1 rfl hd hg (fun z => hT' (h.1 z) ρ H locs ls h1 h2 h3 h4 h5 h6) (fun z => hF (h.2 z) ρ H locs ls h1 h2 h3 h4 h5 h6)
  | lt => exact lv_icmp_lt G.1 rfl hd hg (fun z => hT' (h.1 z) ρ H locs ls h1 h2 h3 h4 h5 h6) (fun z => hF (h.2 z) ρ H locs ls h1 h2 h3 h4 h5 h6)
  | ge => exact lv_icmp_ge G.1 rfl hd hg (fun z => hT' (h.1 z) ρ H locs ls h1 h2 h3 h4 h5 h6) (fun z => hF (h.2 z) ρ H locs ls h1 h2 h3 h4 h5 h6)
  | gt => exact lv_icmp_gt G.1 rfl hd hg (fun z => hT' (h.1 z) ρ H locs ls h1 h2 h3 h4 h5 h6) (fun z => hF (h.2 z) ρ H locs ls h1 h2 h3 h4 h5 h6)
  | le => exact lv_icmp_le G.1 rfl hd hg (fun z => hT' (h.1 z) ρ H locs ls h1 h2 h3 h4 h5 h6) (fun z => hF (h.2 z) ρ H locs ls h1 h2 h3 h4 h5 h6)
theorem xrg_of {g : Int} (h : 0 ≤ g) : ∃ n : Nat, g = (n : Int) := ⟨g.toNat, by omega⟩
set_option maxHeartbeats 4000000 in
theorem xwp_ok (G : XG p R s m args meth D A ρ0 sc d mc ms ini X.1) (hX : xxP X) (ht : ∀ q ∈ t, decode c.code q.1 = .ok (q.2.1, q.2.2)) (hE : XEnd p l e R s m args below meth c D A al n0 ρ0 Q rt mc ms Rp) (hK : ∀ pc lc st sh I J a b, K pc lc st sh I J a b → XW p l e R s m args below meth c D A al n0 ρ0 Q pc lc st sh I J a b) : ∀ (n : Nat) (e' : Nat × Jvm.ClassFile.Instr × Nat) (es : XT), (∀ q ∈ e' :: es, q ∈ t) → ∀ lc st sh I J a b, xwp X rt ini al n0 mc ms sc l d t stop K Rp n (e' :: es) lc st sh I J a b → XW p l e R s m args below meth c D A al n0 ρ0 Q e'.1 lc st sh I J a b := by
  intro n
  induction n with
  | zero =>
    intro e' es hes lc st sh I J a b h
    exact False.elim h
  | succ n ih =>
    intro e' es hes lc st sh I J a b h
    obtain ⟨pc, i, ln⟩ := e'
    replace h : xst X rt ini al n0 mc ms sc l d t stop K Rp (xwp X rt ini al n0 mc ms sc l d t stop K Rp n) pc ln es i lc st sh I J a b := h
    generalize hrn0 : xwp X rt ini al n0 mc ms sc l d t stop K Rp n = rn at h ih
    have hd : decode c.code pc = .ok (i, ln) := ht (pc, i, ln) (hes (pc, i, ln) List.mem_cons_self)
    have hes2 : ∀ q ∈ es, q ∈ t := fun q hq => hes q (List.mem_cons_of_mem _ hq)
    have hj : ∀ {tg : Int} {lc : List (Option Value)} {st : List Value} {sh : List XO} {I : XI} {J : XJ} {a b : Nat}, xjmp t stop K rn tg lc st sh I J a b → ∃ g : Nat, tg = (g : Int) ∧ XW p l e R s m args below meth c D A al n0 ρ0 Q g lc st sh I J a b := fun z => xjmp_ok hK (fun e'' es'' h1 _ _ _ _ _ _ _ h2 => ih e'' es'' h1 _ _ _ _ _ _ _ h2) z
    have hn : ∀ {g : Nat} {lc : List (Option Value)} {st : List Value} {sh : List XO} {I : XI} {J : XJ} {a b : Nat}, xnxt stop K rn es g lc st sh I J a b → XW p l e R s m args below meth c D A al n0 ρ0 Q g lc st sh I J a b := fun z => xnxt_ok hK (fun e'' es'' h1 _ _ _ _ _ _ _ h2 => ih e'' es'' h1 _ _ _ _ _ _ _ h2) hes2 z
    have hdef : xb (Nat.beq ln (xlen i)) (xs X ini al n0 mc ms sc i lc st sh I J a b (xnxt stop K rn es (pc + xlen i))) → XW p l e R s m args below meth c D A al n0 ρ0 Q pc lc st sh I J a b := by
      intro z
      obtain ⟨z1, z2⟩ := xb_el z
      have z3 := Nat.eq_of_beq_eq_true z1
      subst z3
      exact xs_ok G hX hd (fun _ _ _ _ _ _ _ w => hn w) z2
    cases i with
    | goto off =>
      obtain ⟨h1, h'⟩ := xb_el h
      clear h
      have h := h'
      clear h'
      have h2 := Nat.eq_of_beq_eq_true h1
      subst h2
      obtain ⟨g, hg, h⟩ := hj h
      intro ρ H locs ls h1 h2 h3 h4 h5 h6
      exact lv_goto G.1 rfl hd hg (h ρ H locs ls h1 h2 h3 h4 h5 h6)
    | ifCond q off =>
      obtain ⟨h1, h'⟩ := xb_el h
      clear h
      have h := h'
      clear h'
      simp only [Bool.and_eq_true, decide_eq_true_eq] at h1
      have h2 := Nat.eq_of_beq_eq_true h1.1
      subst h2
      obtain ⟨x, r, hst, g⟩ := xi1_el h
      clear h
      subst hst
      exact xc1_ok G hd hj hn g (xrg_of h1.2)
    | if_icmp q off =>
      obtain ⟨h1, h'⟩ := xb_el h
      clear h
      have h := h'
      clear h'
      simp only [Bool.and_eq_true, decide_eq_true_eq] at h1
      have h2 := Nat.eq_of_beq_eq_true h1.1
      subst h2
      obtain ⟨x, y, r, hst, g⟩ := xii_el h
      clear h
      subst hst
      exact xc2_ok G hd hj hn g (xrg_of h1.2)
    | ifnonnull off =>
      obtain ⟨h1, h'⟩ := xb_el h
      clear h
      have h := h'
      clear h'
      have h2 := Nat.eq_of_beq_eq_true h1
      subst h2
      obtain ⟨v, r, hst, g⟩ := xv1_el h
      clear h
      subst hst
      split at g
      · obtain ⟨g', hg, h⟩ := hj g
        intro ρ H locs ls h1 h2 h3 h4 h5 h6
        exact lv_ifnonnull G.1 rfl hd hg (h ρ H locs ls h1 h2 h3 h4 h5 h6)
      · have h := hn g
        intro ρ H locs ls h1 h2 h3 h4 h5 h6
        exact lv_ifnonnullN G.1 rfl hd (h ρ H locs ls h1 h2 h3 h4 h5 h6)
      · exact g.elim
    | tableswitch df lo hi offs =>
      obtain ⟨x, r, hst, g⟩ := xi1_el h
      clear h
      subst hst
      obtain ⟨h1, g⟩ := xb_el g
      simp only [Bool.and_eq_true, decide_eq_true_eq] at h1
      obtain ⟨y1, y2⟩ := xsw_tab g h1.2
      have hsz : offs.toList.length = offs.size := by simp
      by_cases hc : x.toInt < lo ∨ hi < x.toInt
      · obtain ⟨g', hg, h⟩ := hj (y1 (by omega))
        intro ρ H locs ls h1 h2 h3 h4 h5 h6
        exact lv_tableOut G.1 rfl hd hc hg (h ρ H locs ls h1 h2 h3 h4 h5 h6)
      · have hlt : (x.toInt - lo).toNat < offs.toList.length := by omega
        obtain ⟨g', hg, h⟩ := hj (y2 (x.toInt - lo).toNat offs.toList[(x.toInt - lo).toNat] (List.getElem?_eq_getElem hlt) (by omega))
        intro ρ H locs ls h1 h2 h3 h4 h5 h6
        exact lv_tableIn G.1 rfl hd (fun z => hc (Or.inl z)) (fun z => hc (Or.inr z)) (by rw [← Array.getElem?_toList]; exact List.getElem?_eq_getElem hlt) hg (h ρ H locs ls h1 h2 h3 h4 h5 h6)
    | lookupswitch df ps =>
      obtain ⟨x, r, hst, g⟩ := xi1_el h
      clear h
      subst hst
      obtain ⟨h1, g⟩ := xb_el g
      simp only [Bool.and_eq_true] at h1
      obtain ⟨g', hg, h⟩ := hj (xsw_look g h1.2)
      have hp := h1.1
      intro ρ H locs ls h1 h2 h3 h4 h5 h6
      exact lv_lookup G.1 rfl hd hp rfl hg (h ρ H locs ls h1 h2 h3 h4 h5 h6)
    | ireturn =>
      obtain ⟨h1, h'⟩ := xb_el h
      clear h
      have h := h'
      clear h'
      simp only [Bool.and_eq_true, Nat.ble_eq] at h1
      have h2 := Nat.eq_of_beq_eq_true h1.1.1
      subst h2
      obtain ⟨x, r, hst, g⟩ := xi1_el h
      clear h
      subst hst
      unfold xnl at g
      split at g
      · unfold xrt at g
        split at g
        · intro ρ H locs ls h1' h2 h3 h4 h5 h6
          exact hE (some (.int x)) sh I J a b pc .ireturn ρ H locs ls g h1.1.2 h1.2 hd (Or.inr (Or.inl ⟨x, rfl, rfl, Or.inl rfl⟩)) h1' h2 h3 h4
        · intro ρ H locs ls h1' h2 h3 h4 h5 h6
          exact hE (some (.int x)) sh I J a b pc .ireturn ρ H locs ls g.2 h1.1.2 h1.2 hd (Or.inr (Or.inl ⟨x, rfl, rfl, Or.inr (Or.inl ⟨rfl, g.1⟩)⟩)) h1' h2 h3 h4
        · intro ρ H locs ls h1' h2 h3 h4 h5 h6
          exact hE (some (.int x)) sh I J a b pc .ireturn ρ H locs ls g.2 h1.1.2 h1.2 hd (Or.inr (Or.inl ⟨x, rfl, rfl, Or.inr (Or.inr ⟨Or.inl rfl, fun ty z => by cases z; exact g.1⟩)⟩)) h1' h2 h3 h4
        · intro ρ H locs ls h1' h2 h3 h4 h5 h6
          exact hE (some (.int x)) sh I J a b pc .ireturn ρ H locs ls g.2 h1.1.2 h1.2 hd (Or.inr (Or.inl ⟨x, rfl, rfl, Or.inr (Or.inr ⟨Or.inr rfl, fun ty z => by cases z; exact g.1⟩)⟩)) h1' h2 h3 h4
        · exact g.elim
      · exact g.elim
    | lreturn =>
      obtain ⟨h1, h'⟩ := xb_el h
      clear h
      have h := h'
      clear h'
      simp only [Bool.and_eq_true, Nat.ble_eq, decide_eq_true_eq] at h1
      have h2 := Nat.eq_of_beq_eq_true h1.1.1.1
      subst h2
      obtain ⟨x, r, hst, g⟩ := xl1_el h
      clear h
      subst hst
      unfold xnl at g
      split at g
      · intro ρ H locs ls h1' h2 h3 h4 h5 h6
        exact hE (some (.long x)) sh I J a b pc .lreturn ρ H locs ls g h1.1.1.2 h1.1.2 hd (Or.inr (Or.inr (Or.inl ⟨x, rfl, rfl, h1.2⟩))) h1' h2 h3 h4
      · exact g.elim
    | areturn =>
      obtain ⟨h1, h'⟩ := xb_el h
      clear h
      have h := h'
      clear h'
      simp only [Bool.and_eq_true, Nat.ble_eq] at h1
      have h2 := Nat.eq_of_beq_eq_true h1.1.1
      subst h2
      obtain ⟨x, r, hst, g⟩ := xr1_el h
      clear h
      subst hst
      unfold xnl at g
      split at g
      · unfold xra at g
        split at g
        · intro ρ H locs ls h1' h2 h3 h4 h5 h6
          exact hE (some (.ref x)) sh I J a b pc .areturn ρ H locs ls g h1.1.2 h1.2 hd (Or.inr (Or.inr (Or.inr ⟨x, rfl, rfl, Or.inl ⟨_, rfl⟩⟩))) h1' h2 h3 h4
        · intro ρ H locs ls h1' h2 h3 h4 h5 h6
          exact hE (some (.ref x)) sh I J a b pc .areturn ρ H locs ls g h1.1.2 h1.2 hd (Or.inr (Or.inr (Or.inr ⟨x, rfl, rfl, Or.inr ⟨_, rfl⟩⟩))) h1' h2 h3 h4
        · exact g.elim
      · exact g.elim
    | return_ =>
      obtain ⟨h1, h'⟩ := xb_el h
      clear h
      have h := h'
      clear h'
      simp only [Bool.and_eq_true, Nat.ble_eq, Option.isNone_iff_eq_none] at h1
      have h2 := Nat.eq_of_beq_eq_true h1.1.1.1
      subst h2
      unfold xnl at h
      split at h
      · intro ρ H locs ls h1' h2 h3 h4 h5 h6
        exact hE none sh I J a b pc .return_ ρ H locs ls h h1.1.1.2 h1.1.2 hd (Or.inl ⟨rfl, rfl, h1.2⟩) h1' h2 h3 h4
      · exact h.elim
    | invokevirtual idx =>
      obtain ⟨h1, h'⟩ := xb_el h
      clear h
      have h := h'
      clear h'
      have h2 := Nat.eq_of_beq_eq_true h1
      subst h2
      exact xs_callv G hX hd (fun _ _ _ _ _ _ _ w => hn w) h
    | invokestatic idx =>
      obtain ⟨h1, h'⟩ := xb_el h
      clear h
      have h := h'
      clear h'
      have h2 := Nat.eq_of_beq_eq_true h1
      subst h2
      obtain ⟨ce, he, h⟩ := xso_el h
      split at h
      · rename_i z
        exact xs_calls G hX he (Nat.eq_of_beq_eq_true z) hd (fun _ _ _ _ _ _ _ w => hn w) h
      · exact xs_ok G hX hd (fun _ _ _ _ _ _ _ w => hn w) h
    | invokespecial idx =>
      obtain ⟨h1, h'⟩ := xb_el h
      clear h
      have h := h'
      clear h'
      have h2 := Nat.eq_of_beq_eq_true h1
      subst h2
      obtain ⟨ce, he, h⟩ := xso_el h
      split at h
      · rename_i z
        simp only [Bool.or_eq_true] at z
        exact xs_callsp G hX he (z.imp Nat.eq_of_beq_eq_true Nat.eq_of_beq_eq_true) hd (fun _ _ _ _ _ _ _ w => hn w) h
      · exact xs_ok G hX hd (fun _ _ _ _ _ _ _ w => hn w) h
    | _ => exact hdef h
theorem xrun_ok (G : XG p R s m args meth D A ρ0 sc d mc ms ini X.1) (hX : xxP X) (ht : ∀ q ∈ t, decode c.code q.1 = .ok (q.2.1, q.2.2)) (hE : XEnd p l e R s m args below meth c D A al n0 ρ0 Q rt mc ms Rp) : ∀ (n pc : Nat) lc st sh I J a b, xrun X rt ini al n0 mc ms sc l d t stop Rp n pc lc st sh I J a b → XW p l e R s m args below meth c D A al n0 ρ0 Q pc lc st sh I J a b := by
  intro n
  induction n with
  | zero =>
    intro pc lc st sh I J a b h
    exact False.elim h
  | succ n ih =>
    intro pc lc st sh I J a b h
    replace h : xrn X rt ini al n0 mc ms sc l d t stop Rp (xrun X rt ini al n0 mc ms sc l d t stop Rp n) pc lc st sh I J a b := h
    unfold xrn at h
    split at h
    · exact h.elim
    · rename_i e' es he
      obtain ⟨h1, h'⟩ := xb_el h
      clear h
      have h := h'
      clear h'
      have h2 := Nat.eq_of_beq_eq_true h1
      rw [← h2]
      exact xwp_ok G hX ht hE (fun pc lc st sh I J a b w => ih pc lc st sh I J a b w) 1200 e' es (fun q hq => xdrop_sub q (by rw [he]; exact hq)) _ _ _ _ _ _ _ h
end XRUN
